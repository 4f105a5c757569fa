abbrev wd_X4_holds (E : EN) (a_t : Nat) (w_t_kept : Value) (w_t_tried : Value) (w_t_counts : Value) (x_t_places : Int32) (x_t_beginnings : Int32) (x_t_allowed : Int32) (x_t_leastAllowed : Int32) (x_t_manyAllowed : Int32) (x_t_wish : Int32) (x_t_wishPlace : Int32) (x_t_soonestFirst : Int32) (x_t_ways : Int32) (x_t_leastRank : Int32) : va_W := [(a_t, e_O 4 [w_t_kept, w_t_tried, w_t_counts, .int x_t_places, .int x_t_beginnings, .int x_t_allowed, .int x_t_leastAllowed, .int x_t_manyAllowed, .int x_t_wish, .int x_t_wishPlace, .int x_t_soonestFirst, .int x_t_ways, .int x_t_leastRank])]
def f_X4_holds (p1 : Int32) (p2 : Int64) (x_t_beginnings : Int32) (x_t_wish : Int32) (x_t_wishPlace : Int32) : Option (Int32) :=
  if x_t_wish = 0 then
    if p1 = (1 : Int32) then
      some (1 : Int32)
    else
      some (0 : Int32)
  else
  if x_t_wish = 1 then
    if p1 = x_t_beginnings then
      some (1 : Int32)
    else
      some (0 : Int32)
  else
  if x_t_wish = 2 then
    if p1 = (2 : Int32) then
      some (1 : Int32)
    else
      some (0 : Int32)
  else
  if (lg_cmp ((jlushr p2 x_t_wishPlace) &&& (1 : Int64)) (0 : Int64)) = 0 then
    some (0 : Int32)
  else
    some (1 : Int32)
set_option maxHeartbeats 4000000 in
set_option maxRecDepth 100000 in
theorem c_X4_holds (l : Launch) (E : EN) (a_t : Nat) (w_t_kept : Value) (w_t_tried : Value) (w_t_counts : Value) (x_t_places : Int32) (x_t_beginnings : Int32) (x_t_allowed : Int32) (x_t_leastAllowed : Int32) (x_t_manyAllowed : Int32) (x_t_wish : Int32) (x_t_wishPlace : Int32) (x_t_soonestFirst : Int32) (x_t_ways : Int32) (x_t_leastRank : Int32) (p1 : Int32) (p2 : Int64) (res : Int32) (hf : f_X4_holds p1 p2 x_t_beginnings x_t_wish x_t_wishPlace = some res) : CtI l yX4_holds cX4_holds 4 .boolean 0 0 E [.ref a_t, .int p1, .long p2] (wd_X4_holds E a_t w_t_kept w_t_tried w_t_counts x_t_places x_t_beginnings x_t_allowed x_t_leastAllowed x_t_manyAllowed x_t_wish x_t_wishPlace x_t_soonestFirst x_t_ways x_t_leastRank) (wd_X4_holds E a_t w_t_kept w_t_tried w_t_counts x_t_places x_t_beginnings x_t_allowed x_t_leastAllowed x_t_manyAllowed x_t_wish x_t_wishPlace x_t_soonestFirst x_t_ways x_t_leastRank) res := by
  refine CtI.of RX4 (by decide) rfl (Nat.le_of_ble_eq_true rfl) ?_
  intro p e s m below meth c A Q ls X hA hP hD hl fin
  have hx := X.1
  have hb := X.2.1
  have hl : lv_has ls 4 [(0, .ref a_t), (1, .int p1), (2, .long p2)] := hl
  have fin' : ∀ (fr0 : Int32), some fr0 = some res → ∀ (pc : Nat) (ls : Array Slot) (H : Heap) (locs : List Loc), decode cX4_holds pc = .ok (.ireturn, 1) → narrow .boolean (.int fr0) = .int fr0 → va_P E.1 vwCl (wd_X4_holds E a_t w_t_kept w_t_tried w_t_counts x_t_places x_t_beginnings x_t_allowed x_t_leastAllowed x_t_manyAllowed x_t_wish x_t_wishPlace x_t_soonestFirst x_t_ways x_t_leastRank) H → va_D A (wd_X4_holds E a_t w_t_kept w_t_tried w_t_counts x_t_places x_t_beginnings x_t_allowed x_t_leastAllowed x_t_manyAllowed x_t_wish x_t_wishPlace x_t_soonestFirst x_t_ways x_t_leastRank) → va_S A s.heap H locs → W p l e (rmm 0 0) s m ([.ref a_t, .int p1, .long p2] : List Value).toArray below meth c H locs 0 0 Q (F0 m pc ls [.int fr0]) := by
    intro fr0 he
    cases he
    exact fin
  have hS : va_S A s.heap s.heap [] := va_S.rf
  obtain ⟨H, hH9⟩ : ∃ z, z = s.heap := ⟨_, rfl⟩
  obtain ⟨locs, hL9⟩ : ∃ z : List Loc, z = [] := ⟨_, rfl⟩
  rw [← hL9]
  rw [← hL9] at hS
  have hP : va_P E.1 vwCl (wd_X4_holds E a_t w_t_kept w_t_tried w_t_counts x_t_places x_t_beginnings x_t_allowed x_t_leastAllowed x_t_manyAllowed x_t_wish x_t_wishPlace x_t_soonestFirst x_t_ways x_t_leastRank) H := by rw [hH9]; exact hP
  have hS : va_S A s.heap H locs := by rw [hH9]; exact hS
  suffices hgoal : W p l e (rmm 0 0) s m ([.ref a_t, .int p1, .long p2] : List Value).toArray below meth c H locs 0 0 Q (F0 m 0 ls []) by rw [hH9] at hgoal; exact hgoal
  rw [f_X4_holds] at hf
  refine lv_aload_n hx hb dX4_holds_0 rfl (lv_at hl 0 rfl) ?_
  refine gf_X4_58 X hP 0 rfl rfl dX4_holds_1 ?_
  by_cases w4_0 : x_t_wish = 0
  · have hf := if_t w4_0 hf
    refine lv_tableIn (off := 28) (tgt := 32) hx hb dX4_holds_4 (by rw [w4_0]; decide) (by rw [w4_0]; decide) (by rw [w4_0]; rfl) (by decide) ?_
    refine lv_iload_n hx hb dX4_holds_32 rfl (lv_at hl 1 rfl) ?_
    refine lv_iconst (v := (1 : Int32)) hx hb dX4_holds_33 (by decide) ?_
    refine lv_icmp_ne (tgt := 41) hx hb dX4_holds_34 (by decide) (fun c_34 => ?_) (fun c_34 => ?_)
    · have hf := if_f c_34 hf
      refine lv_iconst (v := (0 : Int32)) hx hb dX4_holds_41 (by decide) ?_
      exact fin' _ hf 42 ls H locs dX4_holds_42 rfl hP hD hS
    · have hf := if_t c_34 hf
      refine lv_iconst (v := (1 : Int32)) hx hb dX4_holds_37 (by decide) ?_
      refine lv_goto (tgt := 42) hx hb dX4_holds_38 (by decide) ?_
      exact fin' _ hf 42 ls H locs dX4_holds_42 rfl hP hD hS
  have hf := if_f w4_0 hf
  by_cases w4_1 : x_t_wish = 1
  · have hf := if_t w4_1 hf
    refine lv_tableIn (off := 39) (tgt := 43) hx hb dX4_holds_4 (by rw [w4_1]; decide) (by rw [w4_1]; decide) (by rw [w4_1]; rfl) (by decide) ?_
    refine lv_iload_n hx hb dX4_holds_43 rfl (lv_at hl 1 rfl) ?_
    refine lv_aload_n hx hb dX4_holds_44 rfl (lv_at hl 0 rfl) ?_
    refine gf_X4_38 X hP 0 rfl rfl dX4_holds_45 ?_
    refine lv_icmp_ne (tgt := 55) hx hb dX4_holds_48 (by decide) (fun c_48 => ?_) (fun c_48 => ?_)
    · have hf := if_f c_48 hf
      refine lv_iconst (v := (0 : Int32)) hx hb dX4_holds_55 (by decide) ?_
      exact fin' _ hf 56 ls H locs dX4_holds_56 rfl hP hD hS
    · have hf := if_t c_48 hf
      refine lv_iconst (v := (1 : Int32)) hx hb dX4_holds_51 (by decide) ?_
      refine lv_goto (tgt := 56) hx hb dX4_holds_52 (by decide) ?_
      exact fin' _ hf 56 ls H locs dX4_holds_56 rfl hP hD hS
  have hf := if_f w4_1 hf
  by_cases w4_2 : x_t_wish = 2
  · have hf := if_t w4_2 hf
    refine lv_tableIn (off := 53) (tgt := 57) hx hb dX4_holds_4 (by rw [w4_2]; decide) (by rw [w4_2]; decide) (by rw [w4_2]; rfl) (by decide) ?_
    refine lv_iload_n hx hb dX4_holds_57 rfl (lv_at hl 1 rfl) ?_
    refine lv_iconst (v := (2 : Int32)) hx hb dX4_holds_58 (by decide) ?_
    refine lv_icmp_ne (tgt := 66) hx hb dX4_holds_59 (by decide) (fun c_59 => ?_) (fun c_59 => ?_)
    · have hf := if_f c_59 hf
      refine lv_iconst (v := (0 : Int32)) hx hb dX4_holds_66 (by decide) ?_
      exact fin' _ hf 67 ls H locs dX4_holds_67 rfl hP hD hS
    · have hf := if_t c_59 hf
      refine lv_iconst (v := (1 : Int32)) hx hb dX4_holds_62 (by decide) ?_
      refine lv_goto (tgt := 67) hx hb dX4_holds_63 (by decide) ?_
      exact fin' _ hf 67 ls H locs dX4_holds_67 rfl hP hD hS
  have hf := if_f w4_2 hf
  refine lv_tableOut (x := x_t_wish) (tgt := 68) hx hb dX4_holds_4 (by have q0 := lv_neT (a := 0) w4_0 (by decide); have q1 := lv_neT (a := 1) w4_1 (by decide); have q2 := lv_neT (a := 2) w4_2 (by decide); omega) (by decide) ?_
  refine lv_lload_n hx hb dX4_holds_68 rfl (lv_at hl 2 rfl) ?_
  refine lv_aload_n hx hb dX4_holds_69 rfl (lv_at hl 0 rfl) ?_
  refine gf_X4_61 X hP 0 rfl rfl dX4_holds_70 ?_
  refine lv_lushr (v := (jlushr p2 x_t_wishPlace)) hx hb dX4_holds_73 rfl ?_
  refine lv_lconst (v := (1 : Int64)) hx hb dX4_holds_74 (by decide) ?_
  refine lv_land hx hb dX4_holds_75 ?_
  refine lv_lconst (v := (0 : Int64)) hx hb dX4_holds_76 (by decide) ?_
  refine W.lcmp hx hb dX4_holds_77 ?_
  refine lv_if_eq (tgt := 85) hx hb dX4_holds_78 (by decide) (fun c_78 => ?_) (fun c_78 => ?_)
  · have hf := if_t c_78 hf
    refine lv_iconst (v := (0 : Int32)) hx hb dX4_holds_85 (by decide) ?_
    exact fin' _ hf 86 ls H locs dX4_holds_86 rfl hP hD hS
  · have hf := if_f c_78 hf
    refine lv_iconst (v := (1 : Int32)) hx hb dX4_holds_81 (by decide) ?_
    refine lv_goto (tgt := 86) hx hb dX4_holds_82 (by decide) ?_
    exact fin' _ hf 86 ls H locs dX4_holds_86 rfl hP hD hS
abbrev wd_X4_weigh (E : EN) (a_t : Nat) (a_t_tried : Nat) (a_t_kept : Nat) (w_t_counts : Value) (x_t_places : Int32) (x_t_beginnings : Int32) (x_t_allowed : Int32) (x_t_leastAllowed : Int32) (x_t_manyAllowed : Int32) (x_t_wish : Int32) (x_t_wishPlace : Int32) (x_t_soonestFirst : Int32) (x_t_ways : Int32) (x_t_leastRank : Int32) (x_t_tried : Nat → Int32) (x_t_kept : Nat → Int32) : va_W := [(a_t, e_O 4 [.ref a_t_kept, .ref a_t_tried, w_t_counts, .int x_t_places, .int x_t_beginnings, .int x_t_allowed, .int x_t_leastAllowed, .int x_t_manyAllowed, .int x_t_wish, .int x_t_wishPlace, .int x_t_soonestFirst, .int x_t_ways, .int x_t_leastRank]), (a_t_tried, e_I E 4 x_t_tried), (a_t_kept, e_I E 4 x_t_kept)]
def f_X4_weigh_39 (x_t_tried : Nat → Int32)  (s0 : Int32) (m_t_ways : Int32) (m_t_leastRank : Int32) (m_t_kept : Nat → Int32) : Option (Int32 × Int32 × (Nat → Int32)) :=
  if m_t_leastRank ≤ s0 then
    some (m_t_ways, m_t_leastRank, m_t_kept)
  else
    some (m_t_ways, s0, (va_cpy x_t_tried m_t_kept (ix (0 : Int32)) (ix (0 : Int32)) (ix (4 : Int32))))
def f_X4_weigh (p1 : Int64) (p2 : Int64) (p3 : Int32) (x_t_beginnings : Int32) (x_t_wish : Int32) (x_t_wishPlace : Int32) (x_t_soonestFirst : Int32) (x_t_ways : Int32) (x_t_leastRank : Int32) (x_t_tried : Nat → Int32) (x_t_kept : Nat → Int32) : Option (Int32 × Int32 × (Nat → Int32)) :=
  Option.bind (f_J13_bitCount_95d88 p1) (fun r2 =>
  Option.bind (f_X4_holds r2 p2 x_t_beginnings x_t_wish x_t_wishPlace) (fun r6 =>
  if r6 = 0 then
    some (x_t_ways, x_t_leastRank, x_t_kept)
  else
    if x_t_soonestFirst = 0 then
      f_X4_weigh_39 x_t_tried (0 : Int32) (x_t_ways + p3) x_t_leastRank x_t_kept
    else
      Option.bind (f_X5_leastBit p2) (fun r32 =>
      f_X4_weigh_39 x_t_tried r32 (x_t_ways + p3) x_t_leastRank x_t_kept)))
set_option maxHeartbeats 4000000 in
set_option maxRecDepth 100000 in
theorem c_X4_weigh (l : Launch) (E : EN) (a_t a_t_tried a_t_kept : Nat) (w_t_counts : Value) (x_t_places : Int32) (x_t_beginnings : Int32) (x_t_allowed : Int32) (x_t_leastAllowed : Int32) (x_t_manyAllowed : Int32) (x_t_wish : Int32) (x_t_wishPlace : Int32) (x_t_soonestFirst : Int32) (x_t_ways : Int32) (x_t_leastRank : Int32) (x_t_tried : Nat → Int32) (x_t_kept : Nat → Int32) (p1 : Int64) (p2 : Int64) (p3 : Int32) (res : Int32 × Int32 × (Nat → Int32)) (hf : f_X4_weigh p1 p2 p3 x_t_beginnings x_t_wish x_t_wishPlace x_t_soonestFirst x_t_ways x_t_leastRank x_t_tried x_t_kept = some res) : CtV l yX4_weigh cX4_weigh 7 2 60 E [.ref a_t, .long p1, .long p2, .int p3] (wd_X4_weigh E a_t a_t_tried a_t_kept w_t_counts x_t_places x_t_beginnings x_t_allowed x_t_leastAllowed x_t_manyAllowed x_t_wish x_t_wishPlace x_t_soonestFirst x_t_ways x_t_leastRank x_t_tried x_t_kept) (wd_X4_weigh E a_t a_t_tried a_t_kept w_t_counts x_t_places x_t_beginnings x_t_allowed x_t_leastAllowed x_t_manyAllowed x_t_wish x_t_wishPlace x_t_soonestFirst res.1 res.2.1 x_t_tried res.2.2) := by
  refine CtV.of RX4 (by decide) rfl (Nat.le_of_ble_eq_true rfl) ?_
  intro p e s m below meth c A Q ls X hA hP hD hl fin
  have hx := X.1
  have hb := X.2.1
  have hl : lv_has ls 7 [(0, .ref a_t), (1, .long p1), (3, .long p2), (5, .int p3)] := hl
  have fin' : ∀ (fr0 : Int32) (fr1 : Int32) (fr2 : (Nat → Int32)), some (fr0, fr1, fr2) = some res → ∀ (pc : Nat) (ls : Array Slot) (H : Heap) (locs : List Loc), decode cX4_weigh pc = .ok (.return_, 1) → va_P E.1 vwCl (wd_X4_weigh E a_t a_t_tried a_t_kept w_t_counts x_t_places x_t_beginnings x_t_allowed x_t_leastAllowed x_t_manyAllowed x_t_wish x_t_wishPlace x_t_soonestFirst fr0 fr1 x_t_tried fr2) H → va_D A (wd_X4_weigh E a_t a_t_tried a_t_kept w_t_counts x_t_places x_t_beginnings x_t_allowed x_t_leastAllowed x_t_manyAllowed x_t_wish x_t_wishPlace x_t_soonestFirst fr0 fr1 x_t_tried fr2) → va_S A s.heap H locs → W p l e (rmm 2 60) s m ([.ref a_t, .long p1, .long p2, .int p3] : List Value).toArray below meth c H locs 0 0 Q (F0 m pc ls []) := by
    intro fr0 fr1 fr2 he
    cases he
    exact fin
  have L39 : ∀ (s0 : Int32) (m_t_ways : Int32) (m_t_leastRank : Int32) (m_t_kept : Nat → Int32), f_X4_weigh_39 x_t_tried s0 m_t_ways m_t_leastRank m_t_kept = some res → ∀ (H : Heap) (locs : List Loc) (ls : Array Slot), va_P E.1 vwCl (wd_X4_weigh E a_t a_t_tried a_t_kept w_t_counts x_t_places x_t_beginnings x_t_allowed x_t_leastAllowed x_t_manyAllowed x_t_wish x_t_wishPlace x_t_soonestFirst m_t_ways m_t_leastRank x_t_tried m_t_kept) H → va_D A (wd_X4_weigh E a_t a_t_tried a_t_kept w_t_counts x_t_places x_t_beginnings x_t_allowed x_t_leastAllowed x_t_manyAllowed x_t_wish x_t_wishPlace x_t_soonestFirst m_t_ways m_t_leastRank x_t_tried m_t_kept) → va_S A s.heap H locs → lv_has ls 7 [(0, .ref a_t)] → W p l e (rmm 2 60) s m ([.ref a_t, .long p1, .long p2, .int p3] : List Value).toArray below meth c H locs 0 0 Q (F0 m 39 ls [.int s0]) := by
    intro s0 m_t_ways m_t_leastRank m_t_kept hf H locs ls hP hD hS hl
    rw [f_X4_weigh_39] at hf
    refine lv_istore (lv' := [(6, .int s0), (0, .ref a_t)]) hx hb dX4_weigh_39 hl (by decide) rfl (fun ls hl => ?_)
    refine lv_iload hx hb dX4_weigh_41 (lv_at hl 0 rfl) ?_
    refine lv_aload_n hx hb dX4_weigh_43 rfl (lv_at hl 1 rfl) ?_
    refine gf_X4_71 X hP 0 rfl rfl dX4_weigh_44 ?_
    refine lv_icmp_ge (tgt := 70) hx hb dX4_weigh_47 (by decide) (fun c_47 => ?_) (fun c_47 => ?_)
    · have hf := if_t c_47 hf
      exact fin' _ _ _ hf 70 ls H locs dX4_weigh_70 hP hD hS
    · have hf := if_f c_47 hf
      refine lv_aload_n hx hb dX4_weigh_50 rfl (lv_at hl 1 rfl) ?_
      refine lv_iload hx hb dX4_weigh_51 (lv_at hl 0 rfl) ?_
      refine pf_X4_71 X hP hD hS 0 rfl (Nat.le_of_ble_eq_true rfl) (ws' := (wd_X4_weigh E a_t a_t_tried a_t_kept w_t_counts x_t_places x_t_beginnings x_t_allowed x_t_leastAllowed x_t_manyAllowed x_t_wish x_t_wishPlace x_t_soonestFirst m_t_ways s0 x_t_tried m_t_kept)) rfl dX4_weigh_53 (fun H locs hP hD hS => ?_)
      refine lv_aload_n hx hb dX4_weigh_56 rfl (lv_at hl 1 rfl) ?_
      refine gf_X4_15 X hP 0 rfl rfl dX4_weigh_57 ?_
      refine lv_iconst (v := (0 : Int32)) hx hb dX4_weigh_60 (by decide) ?_
      refine lv_aload_n hx hb dX4_weigh_61 rfl (lv_at hl 1 rfl) ?_
      refine gf_X4_9 X hP 0 rfl rfl dX4_weigh_62 ?_
      refine lv_iconst (v := (0 : Int32)) hx hb dX4_weigh_65 (by decide) ?_
      refine lv_iconst (v := (4 : Int32)) hx hb dX4_weigh_66 (by decide) ?_
      refine r_copyI X hl.1 k_518 hP hD hS 1 2 rfl rfl (by decide) (Nat.le_of_ble_eq_true rfl) (Nat.le_of_ble_eq_true rfl) (ws' := (wd_X4_weigh E a_t a_t_tried a_t_kept w_t_counts x_t_places x_t_beginnings x_t_allowed x_t_leastAllowed x_t_manyAllowed x_t_wish x_t_wishPlace x_t_soonestFirst m_t_ways s0 x_t_tried (va_cpy x_t_tried m_t_kept (ix (0 : Int32)) (ix (0 : Int32)) (ix (4 : Int32))))) rfl dX4_weigh_67 (fun H locs hP hD hS => ?_)
      exact fin' _ _ _ hf 70 ls H locs dX4_weigh_70 hP hD hS
  have hS : va_S A s.heap s.heap [] := va_S.rf
  obtain ⟨H, hH9⟩ : ∃ z, z = s.heap := ⟨_, rfl⟩
  obtain ⟨locs, hL9⟩ : ∃ z : List Loc, z = [] := ⟨_, rfl⟩
  rw [← hL9]
  rw [← hL9] at hS
  have hP : va_P E.1 vwCl (wd_X4_weigh E a_t a_t_tried a_t_kept w_t_counts x_t_places x_t_beginnings x_t_allowed x_t_leastAllowed x_t_manyAllowed x_t_wish x_t_wishPlace x_t_soonestFirst x_t_ways x_t_leastRank x_t_tried x_t_kept) H := by rw [hH9]; exact hP
  have hS : va_S A s.heap H locs := by rw [hH9]; exact hS
  suffices hgoal : W p l e (rmm 2 60) s m ([.ref a_t, .long p1, .long p2, .int p3] : List Value).toArray below meth c H locs 0 0 Q (F0 m 0 ls []) by rw [hH9] at hgoal; exact hgoal
  rw [f_X4_weigh] at hf
  refine lv_aload_n hx hb dX4_weigh_0 rfl (lv_at hl 0 rfl) ?_
  refine lv_lload_n hx hb dX4_weigh_1 rfl (lv_at hl 1 rfl) ?_
  obtain ⟨r2, hc2, hf⟩ := bd_some hf
  refine cS_I X hA hP hD hS hl.1 (c_J13_bitCount_95d88 l E p1 r2 hc2) 1 k_538 mw_J13_bitCount_95d88 hd_J13_bitCount_95d88 ⟨Nat.le_of_ble_eq_true rfl, Nat.le_of_ble_eq_true rfl⟩ [] [0, 1, 2] [0, 1, 2] rfl rfl (wr := [0, 1, 2].filterMap (fun i => (wd_X4_weigh E a_t a_t_tried a_t_kept w_t_counts x_t_places x_t_beginnings x_t_allowed x_t_leastAllowed x_t_manyAllowed x_t_wish x_t_wishPlace x_t_soonestFirst x_t_ways x_t_leastRank x_t_tried x_t_kept)[i]?)) rfl rfl rfl rfl rfl (Nat.le_of_ble_eq_true rfl) rfl (ws' := (wd_X4_weigh E a_t a_t_tried a_t_kept w_t_counts x_t_places x_t_beginnings x_t_allowed x_t_leastAllowed x_t_manyAllowed x_t_wish x_t_wishPlace x_t_soonestFirst x_t_ways x_t_leastRank x_t_tried x_t_kept)) rfl ⟨Nat.le_of_ble_eq_true rfl, Nat.le_of_ble_eq_true rfl⟩ dX4_weigh_2 (fun H locs hP hD hS => ?_)
  refine lv_lload_n hx hb dX4_weigh_5 rfl (lv_at hl 2 rfl) ?_
  obtain ⟨r6, hc6, hf⟩ := bd_some hf
  refine cV_I X hA hP hD hS hl.1 (c_X4_holds l E a_t (.ref a_t_kept) (.ref a_t_tried) w_t_counts x_t_places x_t_beginnings x_t_allowed x_t_leastAllowed x_t_manyAllowed x_t_wish x_t_wishPlace x_t_soonestFirst x_t_ways x_t_leastRank r2 p2 r6 hc6) 2 k_539 mw_X4_holds hd_X4_holds ⟨Nat.le_of_ble_eq_true rfl, Nat.le_of_ble_eq_true rfl⟩ [0] [1, 2] [2, 0, 1] rfl rfl (wr := [1, 2].filterMap (fun i => (wd_X4_weigh E a_t a_t_tried a_t_kept w_t_counts x_t_places x_t_beginnings x_t_allowed x_t_leastAllowed x_t_manyAllowed x_t_wish x_t_wishPlace x_t_soonestFirst x_t_ways x_t_leastRank x_t_tried x_t_kept)[i]?)) rfl rfl rfl 4 0 rfl rfl rfl rfl rfl (Nat.le_of_ble_eq_true rfl) rfl (ws' := (wd_X4_weigh E a_t a_t_tried a_t_kept w_t_counts x_t_places x_t_beginnings x_t_allowed x_t_leastAllowed x_t_manyAllowed x_t_wish x_t_wishPlace x_t_soonestFirst x_t_ways x_t_leastRank x_t_tried x_t_kept)) rfl ⟨Nat.le_of_ble_eq_true rfl, Nat.le_of_ble_eq_true rfl⟩ dX4_weigh_6 (fun H locs hP hD hS => ?_)
  refine lv_if_ne (tgt := 13) hx hb dX4_weigh_9 (by decide) (fun c_9 => ?_) (fun c_9 => ?_)
  · have hf := if_f c_9 hf
    refine lv_aload_n hx hb dX4_weigh_13 rfl (lv_at hl 0 rfl) ?_
    refine lv_dup hx hb dX4_weigh_14 rfl ?_
    refine gf_X4_68 X hP 0 rfl rfl dX4_weigh_15 ?_
    refine lv_iload hx hb dX4_weigh_18 (lv_at hl 3 rfl) ?_
    refine lv_iadd hx hb dX4_weigh_20 ?_
    refine pf_X4_68 X hP hD hS 0 rfl (Nat.le_of_ble_eq_true rfl) (ws' := (wd_X4_weigh E a_t a_t_tried a_t_kept w_t_counts x_t_places x_t_beginnings x_t_allowed x_t_leastAllowed x_t_manyAllowed x_t_wish x_t_wishPlace x_t_soonestFirst (x_t_ways + p3) x_t_leastRank x_t_tried x_t_kept)) rfl dX4_weigh_21 (fun H locs hP hD hS => ?_)
    refine lv_aload_n hx hb dX4_weigh_24 rfl (lv_at hl 0 rfl) ?_
    refine gf_X4_64 X hP 0 rfl rfl dX4_weigh_25 ?_
    refine lv_if_eq (tgt := 38) hx hb dX4_weigh_28 (by decide) (fun c_28 => ?_) (fun c_28 => ?_)
    · have hf := if_t c_28 hf
      refine lv_iconst (v := (0 : Int32)) hx hb dX4_weigh_38 (by decide) ?_
      exact L39 (0 : Int32) (x_t_ways + p3) x_t_leastRank x_t_kept hf H locs ls hP hD hS (lv_sub hl [0] rfl)
    · have hf := if_f c_28 hf
      refine lv_lload_n hx hb dX4_weigh_31 rfl (lv_at hl 2 rfl) ?_
      obtain ⟨r32, hc32, hf⟩ := bd_some hf
      refine cN_I X hA hP hD hS hl.1 (c_X5_leastBit l E p2 r32 hc32) 1 X.2.2.2.2.2.2.2.1 mw_X5_leastBit hd_X5_leastBit ⟨Nat.le_of_ble_eq_true rfl, Nat.le_of_ble_eq_true rfl⟩ [] [0, 1, 2] [0, 1, 2] rfl rfl (wr := [0, 1, 2].filterMap (fun i => (wd_X4_weigh E a_t a_t_tried a_t_kept w_t_counts x_t_places x_t_beginnings x_t_allowed x_t_leastAllowed x_t_manyAllowed x_t_wish x_t_wishPlace x_t_soonestFirst (x_t_ways + p3) x_t_leastRank x_t_tried x_t_kept)[i]?)) rfl rfl rfl rfl rfl (Nat.le_of_ble_eq_true rfl) rfl (ws' := (wd_X4_weigh E a_t a_t_tried a_t_kept w_t_counts x_t_places x_t_beginnings x_t_allowed x_t_leastAllowed x_t_manyAllowed x_t_wish x_t_wishPlace x_t_soonestFirst (x_t_ways + p3) x_t_leastRank x_t_tried x_t_kept)) rfl ⟨Nat.le_of_ble_eq_true rfl, Nat.le_of_ble_eq_true rfl⟩ dX4_weigh_32 (fun H locs hP hD hS => ?_)
      refine lv_goto (tgt := 39) hx hb dX4_weigh_35 (by decide) ?_
      exact L39 r32 (x_t_ways + p3) x_t_leastRank x_t_kept hf H locs ls hP hD hS (lv_sub hl [0] rfl)
  · have hf := if_t c_9 hf
    exact fin' _ _ _ hf 12 ls H locs dX4_weigh_12 hP hD hS
