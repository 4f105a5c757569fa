abbrev wd_X6_in (E : EN)   : va_W := []
def f_X6_in (p1 : Int32) (p2 : Int32) (p3 : Int32) : Option (Int32) :=
  if p1 < p2 then
    some (0 : Int32)
  else
    if p3 < p1 then
      some (0 : Int32)
    else
      some (1 : Int32)
set_option maxHeartbeats 4000000 in
set_option maxRecDepth 100000 in
theorem c_X6_in (l : Launch) (E : EN)  (p1 : Int32) (p2 : Int32) (p3 : Int32) (res : Int32) (hf : f_X6_in p1 p2 p3 = some res) : CtI l yX6_in cX6_in 3 .boolean 0 0 E [.int p1, .int p2, .int p3] (wd_X6_in E) (wd_X6_in E) res := by
  refine CtI.of RX6 (by decide) rfl (Nat.le_of_ble_eq_true rfl) ?_
  intro p e s m below meth c A Q ls X hA hP hD hl fin
  have hx := X.1
  have hb := X.2.1
  have hl : lv_has ls 3 [(0, .int p1), (1, .int p2), (2, .int p3)] := hl
  have fin' : ∀ (fr0 : Int32), some fr0 = some res → ∀ (pc : Nat) (ls : Array Slot) (H : Heap) (locs : List Loc), decode cX6_in pc = .ok (.ireturn, 1) → narrow .boolean (.int fr0) = .int fr0 → va_P E.1 vwCl (wd_X6_in E) H → va_D A (wd_X6_in E) → va_S A s.heap H locs → W p l e (rmm 0 0) s m ([.int p1, .int p2, .int p3] : List Value).toArray below meth c H locs 0 0 Q (F0 m pc ls [.int fr0]) := by
    intro fr0 he
    cases he
    exact fin
  have hS : va_S A s.heap s.heap [] := va_S.rf
  obtain ⟨H, hH9⟩ : ∃ z, z = s.heap := ⟨_, rfl⟩
  obtain ⟨locs, hL9⟩ : ∃ z : List Loc, z = [] := ⟨_, rfl⟩
  rw [← hL9]
  rw [← hL9] at hS
  have hP : va_P E.1 vwCl (wd_X6_in E) H := by rw [hH9]; exact hP
  have hS : va_S A s.heap H locs := by rw [hH9]; exact hS
  suffices hgoal : W p l e (rmm 0 0) s m ([.int p1, .int p2, .int p3] : List Value).toArray below meth c H locs 0 0 Q (F0 m 0 ls []) by rw [hH9] at hgoal; exact hgoal
  rw [f_X6_in] at hf
  refine lv_iload_n hx hb dX6_in_0 rfl (lv_at hl 0 rfl) ?_
  refine lv_iload_n hx hb dX6_in_1 rfl (lv_at hl 1 rfl) ?_
  refine lv_icmp_lt (tgt := 14) hx hb dX6_in_2 (by decide) (fun c_2 => ?_) (fun c_2 => ?_)
  · have hf := if_t c_2 hf
    refine lv_iconst (v := (0 : Int32)) hx hb dX6_in_14 (by decide) ?_
    exact fin' _ hf 15 ls H locs dX6_in_15 rfl hP hD hS
  · have hf := if_f c_2 hf
    refine lv_iload_n hx hb dX6_in_5 rfl (lv_at hl 0 rfl) ?_
    refine lv_iload_n hx hb dX6_in_6 rfl (lv_at hl 2 rfl) ?_
    refine lv_icmp_gt (tgt := 14) hx hb dX6_in_7 (by decide) (fun c_7 => ?_) (fun c_7 => ?_)
    · have hf := if_t c_7 hf
      refine lv_iconst (v := (0 : Int32)) hx hb dX6_in_14 (by decide) ?_
      exact fin' _ hf 15 ls H locs dX6_in_15 rfl hP hD hS
    · have hf := if_f c_7 hf
      refine lv_iconst (v := (1 : Int32)) hx hb dX6_in_10 (by decide) ?_
      refine lv_goto (tgt := 15) hx hb dX6_in_11 (by decide) ?_
      exact fin' _ hf 15 ls H locs dX6_in_15 rfl hP hD hS
abbrev wd_X6_say (E : EN) (a_t : Nat) (a_t_pad : Nat) (x_t_signs : Int32) (x_t_places : Int32) (w_t_page : Value) (x_t_begins : Int32) (x_t_court : Int32) (x_t_allowed : Int32) (w_t_weight : Value) (x_t_sights : Int32) (w_t_sight : Value) (w_t_count : Value) (x_t_opens : Int32) (w_t_open : Value) (w_t_behind : Value) (w_t_outs : Value) (w_t_pack : Value) (w_t_image : Value) (w_t_isKept : Value) (x_t_pad : Nat → Int32) : va_W := [(a_t, e_O 6 [.int x_t_signs, .ref a_t_pad, .int x_t_places, w_t_page, .int x_t_begins, .int x_t_court, .int x_t_allowed, w_t_weight, .int x_t_sights, w_t_sight, w_t_count, .int x_t_opens, w_t_open, w_t_behind, w_t_outs, w_t_pack, w_t_image, w_t_isKept]), (a_t_pad, e_I E 48 x_t_pad)]
def f_X6_say (p1 : Int32) (x_t_signs : Int32) (x_t_pad : Nat → Int32) : Option (Int32 × Int32 × (Nat → Int32)) :=
  Option.bind (f_X6_in p1 (33 : Int32) (126 : Int32)) (fun r5 =>
  if r5 = 0 then
    some ((-2 : Int32), x_t_signs, x_t_pad)
  else
    if x_t_signs = (48 : Int32) then
      some ((-4 : Int32), x_t_signs, x_t_pad)
    else
      ck (inB x_t_signs 48) (
      some ((x_t_signs + (1 : Int32)), (x_t_signs + (1 : Int32)), (upd x_t_pad (ix x_t_signs) p1))))
set_option maxHeartbeats 4000000 in
set_option maxRecDepth 100000 in
theorem c_X6_say (l : Launch) (E : EN) (a_t a_t_pad : Nat) (x_t_signs : Int32) (x_t_places : Int32) (w_t_page : Value) (x_t_begins : Int32) (x_t_court : Int32) (x_t_allowed : Int32) (w_t_weight : Value) (x_t_sights : Int32) (w_t_sight : Value) (w_t_count : Value) (x_t_opens : Int32) (w_t_open : Value) (w_t_behind : Value) (w_t_outs : Value) (w_t_pack : Value) (w_t_image : Value) (w_t_isKept : Value) (x_t_pad : Nat → Int32) (p1 : Int32) (res : Int32 × Int32 × (Nat → Int32)) (hf : f_X6_say p1 x_t_signs x_t_pad = some res) : CtI l yX6_say cX6_say 2 .int 1 22 E [.ref a_t, .int p1] (wd_X6_say E a_t a_t_pad x_t_signs x_t_places w_t_page x_t_begins x_t_court x_t_allowed w_t_weight x_t_sights w_t_sight w_t_count x_t_opens w_t_open w_t_behind w_t_outs w_t_pack w_t_image w_t_isKept x_t_pad) (wd_X6_say E a_t a_t_pad res.2.1 x_t_places w_t_page x_t_begins x_t_court x_t_allowed w_t_weight x_t_sights w_t_sight w_t_count x_t_opens w_t_open w_t_behind w_t_outs w_t_pack w_t_image w_t_isKept res.2.2) res.1 := by
  refine CtI.of RX6 (by decide) rfl (Nat.le_of_ble_eq_true rfl) ?_
  intro p e s m below meth c A Q ls X hA hP hD hl fin
  have hx := X.1
  have hb := X.2.1
  have hl : lv_has ls 2 [(0, .ref a_t), (1, .int p1)] := hl
  have fin' : ∀ (fr0 : Int32) (fr1 : Int32) (fr2 : (Nat → Int32)), some (fr0, fr1, fr2) = some res → ∀ (pc : Nat) (ls : Array Slot) (H : Heap) (locs : List Loc), decode cX6_say pc = .ok (.ireturn, 1) → narrow .int (.int fr0) = .int fr0 → va_P E.1 vwCl (wd_X6_say E a_t a_t_pad fr1 x_t_places w_t_page x_t_begins x_t_court x_t_allowed w_t_weight x_t_sights w_t_sight w_t_count x_t_opens w_t_open w_t_behind w_t_outs w_t_pack w_t_image w_t_isKept fr2) H → va_D A (wd_X6_say E a_t a_t_pad fr1 x_t_places w_t_page x_t_begins x_t_court x_t_allowed w_t_weight x_t_sights w_t_sight w_t_count x_t_opens w_t_open w_t_behind w_t_outs w_t_pack w_t_image w_t_isKept fr2) → va_S A s.heap H locs → W p l e (rmm 1 22) s m ([.ref a_t, .int p1] : List Value).toArray below meth c H locs 0 0 Q (F0 m pc ls [.int fr0]) := by
    intro fr0 fr1 fr2 he
    cases he
    exact fin
  have hS : va_S A s.heap s.heap [] := va_S.rf
  obtain ⟨H, hH9⟩ : ∃ z, z = s.heap := ⟨_, rfl⟩
  obtain ⟨locs, hL9⟩ : ∃ z : List Loc, z = [] := ⟨_, rfl⟩
  rw [← hL9]
  rw [← hL9] at hS
  have hP : va_P E.1 vwCl (wd_X6_say E a_t a_t_pad x_t_signs x_t_places w_t_page x_t_begins x_t_court x_t_allowed w_t_weight x_t_sights w_t_sight w_t_count x_t_opens w_t_open w_t_behind w_t_outs w_t_pack w_t_image w_t_isKept x_t_pad) H := by rw [hH9]; exact hP
  have hS : va_S A s.heap H locs := by rw [hH9]; exact hS
  suffices hgoal : W p l e (rmm 1 22) s m ([.ref a_t, .int p1] : List Value).toArray below meth c H locs 0 0 Q (F0 m 0 ls []) by rw [hH9] at hgoal; exact hgoal
  rw [f_X6_say] at hf
  refine lv_iload_n hx hb dX6_say_0 rfl (lv_at hl 1 rfl) ?_
  refine lv_bipush (v := (33 : Int32)) hx hb dX6_say_1 (by decide) ?_
  refine lv_bipush (v := (126 : Int32)) hx hb dX6_say_3 (by decide) ?_
  obtain ⟨r5, hc5, hf⟩ := bd_some hf
  refine cS_I X hA hP hD hS hl.1 (c_X6_in l E p1 (33 : Int32) (126 : Int32) r5 hc5) 3 k_692 mw_X6_in hd_X6_in ⟨Nat.le_of_ble_eq_true rfl, Nat.le_of_ble_eq_true rfl⟩ [] [0, 1] [0, 1] rfl rfl (wr := [0, 1].filterMap (fun i => (wd_X6_say E a_t a_t_pad x_t_signs x_t_places w_t_page x_t_begins x_t_court x_t_allowed w_t_weight x_t_sights w_t_sight w_t_count x_t_opens w_t_open w_t_behind w_t_outs w_t_pack w_t_image w_t_isKept x_t_pad)[i]?)) rfl rfl rfl rfl rfl (Nat.le_of_ble_eq_true rfl) rfl (ws' := (wd_X6_say E a_t a_t_pad x_t_signs x_t_places w_t_page x_t_begins x_t_court x_t_allowed w_t_weight x_t_sights w_t_sight w_t_count x_t_opens w_t_open w_t_behind w_t_outs w_t_pack w_t_image w_t_isKept x_t_pad)) rfl ⟨Nat.le_of_ble_eq_true rfl, Nat.le_of_ble_eq_true rfl⟩ dX6_say_5 (fun H locs hP hD hS => ?_)
  refine lv_if_ne (tgt := 14) hx hb dX6_say_8 (by decide) (fun c_8 => ?_) (fun c_8 => ?_)
  · have hf := if_f c_8 hf
    refine lv_aload_n hx hb dX6_say_14 rfl (lv_at hl 0 rfl) ?_
    refine gf_X6_61 X hP 0 rfl rfl dX6_say_15 ?_
    refine lv_bipush (v := (48 : Int32)) hx hb dX6_say_18 (by decide) ?_
    refine lv_icmp_ne (tgt := 26) hx hb dX6_say_20 (by decide) (fun c_20 => ?_) (fun c_20 => ?_)
    · have hf := if_f c_20 hf
      refine lv_aload_n hx hb dX6_say_26 rfl (lv_at hl 0 rfl) ?_
      refine gf_X6_7 X hP 0 rfl rfl dX6_say_27 ?_
      refine lv_aload_n hx hb dX6_say_30 rfl (lv_at hl 0 rfl) ?_
      refine gf_X6_61 X hP 0 rfl rfl dX6_say_31 ?_
      refine lv_iload_n hx hb dX6_say_34 rfl (lv_at hl 1 rfl) ?_
      obtain ⟨hi35, hf⟩ := ck_some hf
      refine r_iast X hP hD hS 1 rfl hi35 (ws' := (wd_X6_say E a_t a_t_pad x_t_signs x_t_places w_t_page x_t_begins x_t_court x_t_allowed w_t_weight x_t_sights w_t_sight w_t_count x_t_opens w_t_open w_t_behind w_t_outs w_t_pack w_t_image w_t_isKept (upd x_t_pad (ix x_t_signs) p1))) rfl dX6_say_35 (fun H locs hP hD hS => ?_)
      refine lv_aload_n hx hb dX6_say_36 rfl (lv_at hl 0 rfl) ?_
      refine lv_dup hx hb dX6_say_37 rfl ?_
      refine gf_X6_61 X hP 0 rfl rfl dX6_say_38 ?_
      refine lv_iconst (v := (1 : Int32)) hx hb dX6_say_41 (by decide) ?_
      refine lv_iadd hx hb dX6_say_42 ?_
      refine pf_X6_61 X hP hD hS 0 rfl (Nat.le_of_ble_eq_true rfl) (ws' := (wd_X6_say E a_t a_t_pad (x_t_signs + (1 : Int32)) x_t_places w_t_page x_t_begins x_t_court x_t_allowed w_t_weight x_t_sights w_t_sight w_t_count x_t_opens w_t_open w_t_behind w_t_outs w_t_pack w_t_image w_t_isKept (upd x_t_pad (ix x_t_signs) p1))) rfl dX6_say_43 (fun H locs hP hD hS => ?_)
      refine lv_aload_n hx hb dX6_say_46 rfl (lv_at hl 0 rfl) ?_
      refine gf_X6_61 X hP 0 rfl rfl dX6_say_47 ?_
      exact fin' _ _ _ hf 50 ls H locs dX6_say_50 rfl hP hD hS
    · have hf := if_t c_20 hf
      refine lv_bipush (v := (-4 : Int32)) hx hb dX6_say_23 (by decide) ?_
      exact fin' _ _ _ hf 25 ls H locs dX6_say_25 rfl hP hD hS
  · have hf := if_t c_8 hf
    refine lv_bipush (v := (-2 : Int32)) hx hb dX6_say_11 (by decide) ?_
    exact fin' _ _ _ hf 13 ls H locs dX6_say_13 rfl hP hD hS
abbrev wd_X6_wipe (E : EN) (a_t : Nat) (x_t_signs : Int32) (w_t_pad : Value) (x_t_places : Int32) (w_t_page : Value) (x_t_begins : Int32) (x_t_court : Int32) (x_t_allowed : Int32) (w_t_weight : Value) (x_t_sights : Int32) (w_t_sight : Value) (w_t_count : Value) (x_t_opens : Int32) (w_t_open : Value) (w_t_behind : Value) (w_t_outs : Value) (w_t_pack : Value) (w_t_image : Value) (w_t_isKept : Value) : va_W := [(a_t, e_O 6 [.int x_t_signs, w_t_pad, .int x_t_places, w_t_page, .int x_t_begins, .int x_t_court, .int x_t_allowed, w_t_weight, .int x_t_sights, w_t_sight, w_t_count, .int x_t_opens, w_t_open, w_t_behind, w_t_outs, w_t_pack, w_t_image, w_t_isKept])]
def f_X6_wipe (x_t_signs : Int32) : Option (Int32 × Int32) :=
  some (x_t_signs, (0 : Int32))
set_option maxHeartbeats 4000000 in
set_option maxRecDepth 100000 in
theorem c_X6_wipe (l : Launch) (E : EN) (a_t : Nat) (x_t_signs : Int32) (w_t_pad : Value) (x_t_places : Int32) (w_t_page : Value) (x_t_begins : Int32) (x_t_court : Int32) (x_t_allowed : Int32) (w_t_weight : Value) (x_t_sights : Int32) (w_t_sight : Value) (w_t_count : Value) (x_t_opens : Int32) (w_t_open : Value) (w_t_behind : Value) (w_t_outs : Value) (w_t_pack : Value) (w_t_image : Value) (w_t_isKept : Value)  (res : Int32 × Int32) (hf : f_X6_wipe x_t_signs = some res) : CtI l yX6_wipe cX6_wipe 2 .int 0 0 E [.ref a_t] (wd_X6_wipe E a_t x_t_signs w_t_pad x_t_places w_t_page x_t_begins x_t_court x_t_allowed w_t_weight x_t_sights w_t_sight w_t_count x_t_opens w_t_open w_t_behind w_t_outs w_t_pack w_t_image w_t_isKept) (wd_X6_wipe E a_t res.2 w_t_pad x_t_places w_t_page x_t_begins x_t_court x_t_allowed w_t_weight x_t_sights w_t_sight w_t_count x_t_opens w_t_open w_t_behind w_t_outs w_t_pack w_t_image w_t_isKept) res.1 := by
  refine CtI.of RX6 (by decide) rfl (Nat.le_of_ble_eq_true rfl) ?_
  intro p e s m below meth c A Q ls X hA hP hD hl fin
  have hx := X.1
  have hb := X.2.1
  have hl : lv_has ls 2 [(0, .ref a_t)] := hl
  have fin' : ∀ (fr0 : Int32) (fr1 : Int32), some (fr0, fr1) = some res → ∀ (pc : Nat) (ls : Array Slot) (H : Heap) (locs : List Loc), decode cX6_wipe pc = .ok (.ireturn, 1) → narrow .int (.int fr0) = .int fr0 → va_P E.1 vwCl (wd_X6_wipe E a_t fr1 w_t_pad x_t_places w_t_page x_t_begins x_t_court x_t_allowed w_t_weight x_t_sights w_t_sight w_t_count x_t_opens w_t_open w_t_behind w_t_outs w_t_pack w_t_image w_t_isKept) H → va_D A (wd_X6_wipe E a_t fr1 w_t_pad x_t_places w_t_page x_t_begins x_t_court x_t_allowed w_t_weight x_t_sights w_t_sight w_t_count x_t_opens w_t_open w_t_behind w_t_outs w_t_pack w_t_image w_t_isKept) → va_S A s.heap H locs → W p l e (rmm 0 0) s m ([.ref a_t] : List Value).toArray below meth c H locs 0 0 Q (F0 m pc ls [.int fr0]) := by
    intro fr0 fr1 he
    cases he
    exact fin
  have hS : va_S A s.heap s.heap [] := va_S.rf
  obtain ⟨H, hH9⟩ : ∃ z, z = s.heap := ⟨_, rfl⟩
  obtain ⟨locs, hL9⟩ : ∃ z : List Loc, z = [] := ⟨_, rfl⟩
  rw [← hL9]
  rw [← hL9] at hS
  have hP : va_P E.1 vwCl (wd_X6_wipe E a_t x_t_signs w_t_pad x_t_places w_t_page x_t_begins x_t_court x_t_allowed w_t_weight x_t_sights w_t_sight w_t_count x_t_opens w_t_open w_t_behind w_t_outs w_t_pack w_t_image w_t_isKept) H := by rw [hH9]; exact hP
  have hS : va_S A s.heap H locs := by rw [hH9]; exact hS
  suffices hgoal : W p l e (rmm 0 0) s m ([.ref a_t] : List Value).toArray below meth c H locs 0 0 Q (F0 m 0 ls []) by rw [hH9] at hgoal; exact hgoal
  rw [f_X6_wipe] at hf
  refine lv_aload_n hx hb dX6_wipe_0 rfl (lv_at hl 0 rfl) ?_
  refine gf_X6_61 X hP 0 rfl rfl dX6_wipe_1 ?_
  refine lv_istore_n (lv' := [(1, .int x_t_signs), (0, .ref a_t)]) hx hb dX6_wipe_4 rfl hl (by decide) rfl (fun ls hl => ?_)
  refine lv_aload_n hx hb dX6_wipe_5 rfl (lv_at hl 1 rfl) ?_
  refine lv_iconst (v := (0 : Int32)) hx hb dX6_wipe_6 (by decide) ?_
  refine pf_X6_61 X hP hD hS 0 rfl (Nat.le_of_ble_eq_true rfl) (ws' := (wd_X6_wipe E a_t (0 : Int32) w_t_pad x_t_places w_t_page x_t_begins x_t_court x_t_allowed w_t_weight x_t_sights w_t_sight w_t_count x_t_opens w_t_open w_t_behind w_t_outs w_t_pack w_t_image w_t_isKept)) rfl dX6_wipe_7 (fun H locs hP hD hS => ?_)
  refine lv_iload_n hx hb dX6_wipe_10 rfl (lv_at hl 0 rfl) ?_
  exact fin' _ _ hf 11 ls H locs dX6_wipe_11 rfl hP hD hS
abbrev wd_X6_isCourt (E : EN)   : va_W := []
def f_X6_isCourt (p1 : Int32) : Option (Int32) :=
  if p1 = (74 : Int32) then
    some (1 : Int32)
  else
    if p1 = (81 : Int32) then
      some (1 : Int32)
    else
      if p1 = (75 : Int32) then
        some (1 : Int32)
      else
        some (0 : Int32)
set_option maxHeartbeats 4000000 in
set_option maxRecDepth 100000 in
theorem c_X6_isCourt (l : Launch) (E : EN)  (p1 : Int32) (res : Int32) (hf : f_X6_isCourt p1 = some res) : CtI l yX6_isCourt cX6_isCourt 1 .boolean 0 0 E [.int p1] (wd_X6_isCourt E) (wd_X6_isCourt E) res := by
  refine CtI.of RX6 (by decide) rfl (Nat.le_of_ble_eq_true rfl) ?_
  intro p e s m below meth c A Q ls X hA hP hD hl fin
  have hx := X.1
  have hb := X.2.1
  have hl : lv_has ls 1 [(0, .int p1)] := hl
  have fin' : ∀ (fr0 : Int32), some fr0 = some res → ∀ (pc : Nat) (ls : Array Slot) (H : Heap) (locs : List Loc), decode cX6_isCourt pc = .ok (.ireturn, 1) → narrow .boolean (.int fr0) = .int fr0 → va_P E.1 vwCl (wd_X6_isCourt E) H → va_D A (wd_X6_isCourt E) → va_S A s.heap H locs → W p l e (rmm 0 0) s m ([.int p1] : List Value).toArray below meth c H locs 0 0 Q (F0 m pc ls [.int fr0]) := by
    intro fr0 he
    cases he
    exact fin
  have hS : va_S A s.heap s.heap [] := va_S.rf
  obtain ⟨H, hH9⟩ : ∃ z, z = s.heap := ⟨_, rfl⟩
  obtain ⟨locs, hL9⟩ : ∃ z : List Loc, z = [] := ⟨_, rfl⟩
  rw [← hL9]
  rw [← hL9] at hS
  have hP : va_P E.1 vwCl (wd_X6_isCourt E) H := by rw [hH9]; exact hP
  have hS : va_S A s.heap H locs := by rw [hH9]; exact hS
  suffices hgoal : W p l e (rmm 0 0) s m ([.int p1] : List Value).toArray below meth c H locs 0 0 Q (F0 m 0 ls []) by rw [hH9] at hgoal; exact hgoal
  rw [f_X6_isCourt] at hf
  refine lv_iload_n hx hb dX6_isCourt_0 rfl (lv_at hl 0 rfl) ?_
  refine lv_bipush (v := (74 : Int32)) hx hb dX6_isCourt_1 (by decide) ?_
  refine lv_icmp_eq (tgt := 18) hx hb dX6_isCourt_3 (by decide) (fun c_3 => ?_) (fun c_3 => ?_)
  · have hf := if_t c_3 hf
    refine lv_iconst (v := (1 : Int32)) hx hb dX6_isCourt_18 (by decide) ?_
    refine lv_goto (tgt := 23) hx hb dX6_isCourt_19 (by decide) ?_
    exact fin' _ hf 23 ls H locs dX6_isCourt_23 rfl hP hD hS
  · have hf := if_f c_3 hf
    refine lv_iload_n hx hb dX6_isCourt_6 rfl (lv_at hl 0 rfl) ?_
    refine lv_bipush (v := (81 : Int32)) hx hb dX6_isCourt_7 (by decide) ?_
    refine lv_icmp_eq (tgt := 18) hx hb dX6_isCourt_9 (by decide) (fun c_9 => ?_) (fun c_9 => ?_)
    · have hf := if_t c_9 hf
      refine lv_iconst (v := (1 : Int32)) hx hb dX6_isCourt_18 (by decide) ?_
      refine lv_goto (tgt := 23) hx hb dX6_isCourt_19 (by decide) ?_
      exact fin' _ hf 23 ls H locs dX6_isCourt_23 rfl hP hD hS
    · have hf := if_f c_9 hf
      refine lv_iload_n hx hb dX6_isCourt_12 rfl (lv_at hl 0 rfl) ?_
      refine lv_bipush (v := (75 : Int32)) hx hb dX6_isCourt_13 (by decide) ?_
      refine lv_icmp_ne (tgt := 22) hx hb dX6_isCourt_15 (by decide) (fun c_15 => ?_) (fun c_15 => ?_)
      · have hf := if_f c_15 hf
        refine lv_iconst (v := (0 : Int32)) hx hb dX6_isCourt_22 (by decide) ?_
        exact fin' _ hf 23 ls H locs dX6_isCourt_23 rfl hP hD hS
      · have hf := if_t c_15 hf
        refine lv_iconst (v := (1 : Int32)) hx hb dX6_isCourt_18 (by decide) ?_
        refine lv_goto (tgt := 23) hx hb dX6_isCourt_19 (by decide) ?_
        exact fin' _ hf 23 ls H locs dX6_isCourt_23 rfl hP hD hS
abbrev wd_X6_faultOf (E : EN) (a_t : Nat) (a_t_pad : Nat) (x_t_signs : Int32) (x_t_places : Int32) (w_t_page : Value) (x_t_begins : Int32) (x_t_court : Int32) (x_t_allowed : Int32) (w_t_weight : Value) (x_t_sights : Int32) (w_t_sight : Value) (w_t_count : Value) (x_t_opens : Int32) (w_t_open : Value) (w_t_behind : Value) (w_t_outs : Value) (w_t_pack : Value) (w_t_image : Value) (w_t_isKept : Value) (x_t_pad : Nat → Int32) : va_W := [(a_t, e_O 6 [.int x_t_signs, .ref a_t_pad, .int x_t_places, w_t_page, .int x_t_begins, .int x_t_court, .int x_t_allowed, w_t_weight, .int x_t_sights, w_t_sight, w_t_count, .int x_t_opens, w_t_open, w_t_behind, w_t_outs, w_t_pack, w_t_image, w_t_isKept]), (a_t_pad, e_I E 48 x_t_pad)]
def f_X6_faultOf_105 (K_6 : Int32 → Int32 → Int32 → Option (Int32)) (v1 : Int32) (v2 : Int32) (v3 : Int32) (s0 : Int32) : Option (Int32) :=
  if s0 = 0 then
    some v3
  else
    if v3 = (40 : Int32) then
      some v3
    else
      if (4 : Int32) < v1 then
        some v3
      else
        if v2 ≤ (5 : Int32) then
          K_6 v1 v2 (v3 + (1 : Int32))
        else
          some v3
def f_X6_faultOf_50 (K_6 : Int32 → Int32 → Int32 → Option (Int32)) (v1 : Int32) (v3 : Int32) (v4 : Int32) (s0 : Int32) (s1 : Int32) : Option (Int32) :=
  Option.bind (f_X6_in v4 (49 : Int32) (57 : Int32)) (fun r58 =>
  if r58 = 0 then
    if v4 = (84 : Int32) then
      f_X6_faultOf_105 K_6 v1 (s1 + s0) v3 (1 : Int32)
    else
      if v4 = (65 : Int32) then
        f_X6_faultOf_105 K_6 v1 (s1 + s0) v3 (1 : Int32)
      else
        Option.bind (f_X6_isCourt v4) (fun r80 =>
        if r80 = 0 then
          if v4 = (42 : Int32) then
            f_X6_faultOf_105 K_6 v1 (s1 + s0) v3 (1 : Int32)
          else
            if v4 = (63 : Int32) then
              f_X6_faultOf_105 K_6 v1 (s1 + s0) v3 (1 : Int32)
            else
              f_X6_faultOf_105 K_6 v1 (s1 + s0) v3 (0 : Int32)
        else
          f_X6_faultOf_105 K_6 v1 (s1 + s0) v3 (1 : Int32))
  else
    f_X6_faultOf_105 K_6 v1 (s1 + s0) v3 (1 : Int32))
def f_X6_faultOf_6 (x_t_signs : Int32) (x_t_pad : Nat → Int32)  : Nat → Int32 → Int32 → Int32 → Option (Int32)
  | 0, _, _, _ => none
  | n_ + 1, v1, v2, v3 =>
    if x_t_signs ≤ v3 then
      if x_t_signs = 0 then
        some (0 : Int32)
      else
        some (-6 : Int32)
    else
      ck (inB v3 48) (
      if (x_t_pad (ix v3)) = (42 : Int32) then
        if (x_t_pad (ix v3)) = (63 : Int32) then
          f_X6_faultOf_50 (f_X6_faultOf_6 x_t_signs x_t_pad n_) (v1 + (1 : Int32)) v3 (x_t_pad (ix v3)) (1 : Int32) v2
        else
          f_X6_faultOf_50 (f_X6_faultOf_6 x_t_signs x_t_pad n_) (v1 + (1 : Int32)) v3 (x_t_pad (ix v3)) (0 : Int32) v2
      else
        if (x_t_pad (ix v3)) = (63 : Int32) then
          f_X6_faultOf_50 (f_X6_faultOf_6 x_t_signs x_t_pad n_) (v1 + (0 : Int32)) v3 (x_t_pad (ix v3)) (1 : Int32) v2
        else
          f_X6_faultOf_50 (f_X6_faultOf_6 x_t_signs x_t_pad n_) (v1 + (0 : Int32)) v3 (x_t_pad (ix v3)) (0 : Int32) v2)
def f_X6_faultOf (x_t_signs : Int32) (x_t_pad : Nat → Int32) : Option (Int32) :=
  f_X6_faultOf_6 x_t_signs x_t_pad FU (0 : Int32) (0 : Int32) (0 : Int32)
set_option maxHeartbeats 4000000 in
set_option maxRecDepth 100000 in
theorem c_X6_faultOf (l : Launch) (E : EN) (a_t a_t_pad : Nat) (x_t_signs : Int32) (x_t_places : Int32) (w_t_page : Value) (x_t_begins : Int32) (x_t_court : Int32) (x_t_allowed : Int32) (w_t_weight : Value) (x_t_sights : Int32) (w_t_sight : Value) (w_t_count : Value) (x_t_opens : Int32) (w_t_open : Value) (w_t_behind : Value) (w_t_outs : Value) (w_t_pack : Value) (w_t_image : Value) (w_t_isKept : Value) (x_t_pad : Nat → Int32)  (res : Int32) (hf : f_X6_faultOf x_t_signs x_t_pad = some res) : CtI l yX6_faultOf cX6_faultOf 6 .int 1 22 E [.ref a_t] (wd_X6_faultOf E a_t a_t_pad x_t_signs x_t_places w_t_page x_t_begins x_t_court x_t_allowed w_t_weight x_t_sights w_t_sight w_t_count x_t_opens w_t_open w_t_behind w_t_outs w_t_pack w_t_image w_t_isKept x_t_pad) (wd_X6_faultOf E a_t a_t_pad x_t_signs x_t_places w_t_page x_t_begins x_t_court x_t_allowed w_t_weight x_t_sights w_t_sight w_t_count x_t_opens w_t_open w_t_behind w_t_outs w_t_pack w_t_image w_t_isKept x_t_pad) res := by
  refine CtI.of RX6 (by decide) rfl (Nat.le_of_ble_eq_true rfl) ?_
  intro p e s m below meth c A Q ls X hA hP hD hl fin
  have hx := X.1
  have hb := X.2.1
  have hl : lv_has ls 6 [(0, .ref a_t)] := hl
  have fin' : ∀ (fr0 : Int32), some fr0 = some res → ∀ (pc : Nat) (ls : Array Slot) (H : Heap) (locs : List Loc), decode cX6_faultOf pc = .ok (.ireturn, 1) → narrow .int (.int fr0) = .int fr0 → va_P E.1 vwCl (wd_X6_faultOf E a_t a_t_pad x_t_signs x_t_places w_t_page x_t_begins x_t_court x_t_allowed w_t_weight x_t_sights w_t_sight w_t_count x_t_opens w_t_open w_t_behind w_t_outs w_t_pack w_t_image w_t_isKept x_t_pad) H → va_D A (wd_X6_faultOf E a_t a_t_pad x_t_signs x_t_places w_t_page x_t_begins x_t_court x_t_allowed w_t_weight x_t_sights w_t_sight w_t_count x_t_opens w_t_open w_t_behind w_t_outs w_t_pack w_t_image w_t_isKept x_t_pad) → va_S A s.heap H locs → W p l e (rmm 1 22) s m ([.ref a_t] : List Value).toArray below meth c H locs 0 0 Q (F0 m pc ls [.int fr0]) := by
    intro fr0 he
    cases he
    exact fin
  have L6 : ∀ (n6 : Nat) (v1 : Int32) (v2 : Int32) (v3 : Int32), f_X6_faultOf_6 x_t_signs x_t_pad n6 v1 v2 v3 = some res → ∀ (H : Heap) (locs : List Loc) (ls : Array Slot), va_P E.1 vwCl (wd_X6_faultOf E a_t a_t_pad x_t_signs x_t_places w_t_page x_t_begins x_t_court x_t_allowed w_t_weight x_t_sights w_t_sight w_t_count x_t_opens w_t_open w_t_behind w_t_outs w_t_pack w_t_image w_t_isKept x_t_pad) H → va_D A (wd_X6_faultOf E a_t a_t_pad x_t_signs x_t_places w_t_page x_t_begins x_t_court x_t_allowed w_t_weight x_t_sights w_t_sight w_t_count x_t_opens w_t_open w_t_behind w_t_outs w_t_pack w_t_image w_t_isKept x_t_pad) → va_S A s.heap H locs → lv_has ls 6 [(0, .ref a_t), (1, .int v1), (2, .int v2), (3, .int v3)] → W p l e (rmm 1 22) s m ([.ref a_t] : List Value).toArray below meth c H locs 0 0 Q (F0 m 6 ls []) := by
    intro n6
    induction n6 with
    | zero => intro v1 v2 v3 hf; rw [f_X6_faultOf_6] at hf; cases hf
    | succ n6 ih6 =>
      have L105 : ∀ (v1 : Int32) (v2 : Int32) (v3 : Int32) (s0 : Int32), f_X6_faultOf_105 (f_X6_faultOf_6 x_t_signs x_t_pad n6) v1 v2 v3 s0 = some res → ∀ (H : Heap) (locs : List Loc) (ls : Array Slot), va_P E.1 vwCl (wd_X6_faultOf E a_t a_t_pad x_t_signs x_t_places w_t_page x_t_begins x_t_court x_t_allowed w_t_weight x_t_sights w_t_sight w_t_count x_t_opens w_t_open w_t_behind w_t_outs w_t_pack w_t_image w_t_isKept x_t_pad) H → va_D A (wd_X6_faultOf E a_t a_t_pad x_t_signs x_t_places w_t_page x_t_begins x_t_court x_t_allowed w_t_weight x_t_sights w_t_sight w_t_count x_t_opens w_t_open w_t_behind w_t_outs w_t_pack w_t_image w_t_isKept x_t_pad) → va_S A s.heap H locs → lv_has ls 6 [(0, .ref a_t), (1, .int v1), (2, .int v2), (3, .int v3)] → W p l e (rmm 1 22) s m ([.ref a_t] : List Value).toArray below meth c H locs 0 0 Q (F0 m 105 ls [.int s0]) := by
        intro v1 v2 v3 s0 hf H locs ls hP hD hS hl
        rw [f_X6_faultOf_105] at hf
        refine lv_istore (lv' := [(5, .int s0), (0, .ref a_t), (1, .int v1), (2, .int v2), (3, .int v3)]) hx hb dX6_faultOf_105 hl (by decide) rfl (fun ls hl => ?_)
        refine lv_iload hx hb dX6_faultOf_107 (lv_at hl 0 rfl) ?_
        refine lv_if_eq (tgt := 128) hx hb dX6_faultOf_109 (by decide) (fun c_109 => ?_) (fun c_109 => ?_)
        · have hf := if_t c_109 hf
          refine lv_iload_n hx hb dX6_faultOf_128 rfl (lv_at hl 4 rfl) ?_
          exact fin' _ hf 129 ls H locs dX6_faultOf_129 rfl hP hD hS
        · have hf := if_f c_109 hf
          refine lv_iload_n hx hb dX6_faultOf_112 rfl (lv_at hl 4 rfl) ?_
          refine lv_bipush (v := (40 : Int32)) hx hb dX6_faultOf_113 (by decide) ?_
          refine lv_icmp_eq (tgt := 128) hx hb dX6_faultOf_115 (by decide) (fun c_115 => ?_) (fun c_115 => ?_)
          · have hf := if_t c_115 hf
            refine lv_iload_n hx hb dX6_faultOf_128 rfl (lv_at hl 4 rfl) ?_
            exact fin' _ hf 129 ls H locs dX6_faultOf_129 rfl hP hD hS
          · have hf := if_f c_115 hf
            refine lv_iload_n hx hb dX6_faultOf_118 rfl (lv_at hl 2 rfl) ?_
            refine lv_iconst (v := (4 : Int32)) hx hb dX6_faultOf_119 (by decide) ?_
            refine lv_icmp_gt (tgt := 128) hx hb dX6_faultOf_120 (by decide) (fun c_120 => ?_) (fun c_120 => ?_)
            · have hf := if_t c_120 hf
              refine lv_iload_n hx hb dX6_faultOf_128 rfl (lv_at hl 4 rfl) ?_
              exact fin' _ hf 129 ls H locs dX6_faultOf_129 rfl hP hD hS
            · have hf := if_f c_120 hf
              refine lv_iload_n hx hb dX6_faultOf_123 rfl (lv_at hl 3 rfl) ?_
              refine lv_iconst (v := (5 : Int32)) hx hb dX6_faultOf_124 (by decide) ?_
              refine lv_icmp_le (tgt := 130) hx hb dX6_faultOf_125 (by decide) (fun c_125 => ?_) (fun c_125 => ?_)
              · have hf := if_t c_125 hf
                refine lv_iinc (v := (v3 + (1 : Int32))) (lv' := [(3, .int (v3 + (1 : Int32))), (5, .int s0), (0, .ref a_t), (1, .int v1), (2, .int v2)]) hx hb dX6_faultOf_130 hl (k := 4) rfl rfl (by decide) rfl (fun ls hl => ?_)
                refine lv_goto (tgt := 6) hx hb dX6_faultOf_133 (by decide) ?_
                exact ih6 v1 v2 (v3 + (1 : Int32)) hf H locs ls hP hD hS (lv_sub hl [2, 3, 4, 0] rfl)
              · have hf := if_f c_125 hf
                refine lv_iload_n hx hb dX6_faultOf_128 rfl (lv_at hl 4 rfl) ?_
                exact fin' _ hf 129 ls H locs dX6_faultOf_129 rfl hP hD hS
      have L50 : ∀ (v1 : Int32) (v3 : Int32) (v4 : Int32) (s0 : Int32) (s1 : Int32), f_X6_faultOf_50 (f_X6_faultOf_6 x_t_signs x_t_pad n6) v1 v3 v4 s0 s1 = some res → ∀ (H : Heap) (locs : List Loc) (ls : Array Slot), va_P E.1 vwCl (wd_X6_faultOf E a_t a_t_pad x_t_signs x_t_places w_t_page x_t_begins x_t_court x_t_allowed w_t_weight x_t_sights w_t_sight w_t_count x_t_opens w_t_open w_t_behind w_t_outs w_t_pack w_t_image w_t_isKept x_t_pad) H → va_D A (wd_X6_faultOf E a_t a_t_pad x_t_signs x_t_places w_t_page x_t_begins x_t_court x_t_allowed w_t_weight x_t_sights w_t_sight w_t_count x_t_opens w_t_open w_t_behind w_t_outs w_t_pack w_t_image w_t_isKept x_t_pad) → va_S A s.heap H locs → lv_has ls 6 [(0, .ref a_t), (1, .int v1), (3, .int v3), (4, .int v4)] → W p l e (rmm 1 22) s m ([.ref a_t] : List Value).toArray below meth c H locs 0 0 Q (F0 m 50 ls [.int s0, .int s1]) := by
        intro v1 v3 v4 s0 s1 hf H locs ls hP hD hS hl
        rw [f_X6_faultOf_50] at hf
        refine lv_iadd hx hb dX6_faultOf_50 ?_
        refine lv_istore_n (lv' := [(2, .int (s1 + s0)), (0, .ref a_t), (1, .int v1), (3, .int v3), (4, .int v4)]) hx hb dX6_faultOf_51 rfl hl (by decide) rfl (fun ls hl => ?_)
        refine lv_iload hx hb dX6_faultOf_52 (lv_at hl 4 rfl) ?_
        refine lv_bipush (v := (49 : Int32)) hx hb dX6_faultOf_54 (by decide) ?_
        refine lv_bipush (v := (57 : Int32)) hx hb dX6_faultOf_56 (by decide) ?_
        obtain ⟨r58, hc58, hf⟩ := bd_some hf
        refine cS_I X hA hP hD hS hl.1 (c_X6_in l E v4 (49 : Int32) (57 : Int32) r58 hc58) 3 k_692 mw_X6_in hd_X6_in ⟨Nat.le_of_ble_eq_true rfl, Nat.le_of_ble_eq_true rfl⟩ [] [0, 1] [0, 1] rfl rfl (wr := [0, 1].filterMap (fun i => (wd_X6_faultOf E a_t a_t_pad x_t_signs x_t_places w_t_page x_t_begins x_t_court x_t_allowed w_t_weight x_t_sights w_t_sight w_t_count x_t_opens w_t_open w_t_behind w_t_outs w_t_pack w_t_image w_t_isKept x_t_pad)[i]?)) rfl rfl rfl rfl rfl (Nat.le_of_ble_eq_true rfl) rfl (ws' := (wd_X6_faultOf E a_t a_t_pad x_t_signs x_t_places w_t_page x_t_begins x_t_court x_t_allowed w_t_weight x_t_sights w_t_sight w_t_count x_t_opens w_t_open w_t_behind w_t_outs w_t_pack w_t_image w_t_isKept x_t_pad)) rfl ⟨Nat.le_of_ble_eq_true rfl, Nat.le_of_ble_eq_true rfl⟩ dX6_faultOf_58 (fun H locs hP hD hS => ?_)
        refine lv_if_ne (tgt := 100) hx hb dX6_faultOf_61 (by decide) (fun c_61 => ?_) (fun c_61 => ?_)
        · have hf := if_f c_61 hf
          refine lv_iconst (v := (1 : Int32)) hx hb dX6_faultOf_100 (by decide) ?_
          refine lv_goto (tgt := 105) hx hb dX6_faultOf_101 (by decide) ?_
          exact L105 v1 (s1 + s0) v3 (1 : Int32) hf H locs ls hP hD hS (lv_sub hl [1, 2, 0, 3] rfl)
        · have hf := if_t c_61 hf
          refine lv_iload hx hb dX6_faultOf_64 (lv_at hl 4 rfl) ?_
          refine lv_bipush (v := (84 : Int32)) hx hb dX6_faultOf_66 (by decide) ?_
          refine lv_icmp_eq (tgt := 100) hx hb dX6_faultOf_68 (by decide) (fun c_68 => ?_) (fun c_68 => ?_)
          · have hf := if_t c_68 hf
            refine lv_iconst (v := (1 : Int32)) hx hb dX6_faultOf_100 (by decide) ?_
            refine lv_goto (tgt := 105) hx hb dX6_faultOf_101 (by decide) ?_
            exact L105 v1 (s1 + s0) v3 (1 : Int32) hf H locs ls hP hD hS (lv_sub hl [1, 2, 0, 3] rfl)
          · have hf := if_f c_68 hf
            refine lv_iload hx hb dX6_faultOf_71 (lv_at hl 4 rfl) ?_
            refine lv_bipush (v := (65 : Int32)) hx hb dX6_faultOf_73 (by decide) ?_
            refine lv_icmp_eq (tgt := 100) hx hb dX6_faultOf_75 (by decide) (fun c_75 => ?_) (fun c_75 => ?_)
            · have hf := if_t c_75 hf
              refine lv_iconst (v := (1 : Int32)) hx hb dX6_faultOf_100 (by decide) ?_
              refine lv_goto (tgt := 105) hx hb dX6_faultOf_101 (by decide) ?_
              exact L105 v1 (s1 + s0) v3 (1 : Int32) hf H locs ls hP hD hS (lv_sub hl [1, 2, 0, 3] rfl)
            · have hf := if_f c_75 hf
              refine lv_iload hx hb dX6_faultOf_78 (lv_at hl 4 rfl) ?_
              obtain ⟨r80, hc80, hf⟩ := bd_some hf
              refine cS_I X hA hP hD hS hl.1 (c_X6_isCourt l E v4 r80 hc80) 1 k_707 mw_X6_isCourt hd_X6_isCourt ⟨Nat.le_of_ble_eq_true rfl, Nat.le_of_ble_eq_true rfl⟩ [] [0, 1] [0, 1] rfl rfl (wr := [0, 1].filterMap (fun i => (wd_X6_faultOf E a_t a_t_pad x_t_signs x_t_places w_t_page x_t_begins x_t_court x_t_allowed w_t_weight x_t_sights w_t_sight w_t_count x_t_opens w_t_open w_t_behind w_t_outs w_t_pack w_t_image w_t_isKept x_t_pad)[i]?)) rfl rfl rfl rfl rfl (Nat.le_of_ble_eq_true rfl) rfl (ws' := (wd_X6_faultOf E a_t a_t_pad x_t_signs x_t_places w_t_page x_t_begins x_t_court x_t_allowed w_t_weight x_t_sights w_t_sight w_t_count x_t_opens w_t_open w_t_behind w_t_outs w_t_pack w_t_image w_t_isKept x_t_pad)) rfl ⟨Nat.le_of_ble_eq_true rfl, Nat.le_of_ble_eq_true rfl⟩ dX6_faultOf_80 (fun H locs hP hD hS => ?_)
              refine lv_if_ne (tgt := 100) hx hb dX6_faultOf_83 (by decide) (fun c_83 => ?_) (fun c_83 => ?_)
              · have hf := if_f c_83 hf
                refine lv_iconst (v := (1 : Int32)) hx hb dX6_faultOf_100 (by decide) ?_
                refine lv_goto (tgt := 105) hx hb dX6_faultOf_101 (by decide) ?_
                exact L105 v1 (s1 + s0) v3 (1 : Int32) hf H locs ls hP hD hS (lv_sub hl [1, 2, 0, 3] rfl)
              · have hf := if_t c_83 hf
                refine lv_iload hx hb dX6_faultOf_86 (lv_at hl 4 rfl) ?_
                refine lv_bipush (v := (42 : Int32)) hx hb dX6_faultOf_88 (by decide) ?_
                refine lv_icmp_eq (tgt := 100) hx hb dX6_faultOf_90 (by decide) (fun c_90 => ?_) (fun c_90 => ?_)
                · have hf := if_t c_90 hf
                  refine lv_iconst (v := (1 : Int32)) hx hb dX6_faultOf_100 (by decide) ?_
                  refine lv_goto (tgt := 105) hx hb dX6_faultOf_101 (by decide) ?_
                  exact L105 v1 (s1 + s0) v3 (1 : Int32) hf H locs ls hP hD hS (lv_sub hl [1, 2, 0, 3] rfl)
                · have hf := if_f c_90 hf
                  refine lv_iload hx hb dX6_faultOf_93 (lv_at hl 4 rfl) ?_
                  refine lv_bipush (v := (63 : Int32)) hx hb dX6_faultOf_95 (by decide) ?_
                  refine lv_icmp_ne (tgt := 104) hx hb dX6_faultOf_97 (by decide) (fun c_97 => ?_) (fun c_97 => ?_)
                  · have hf := if_f c_97 hf
                    refine lv_iconst (v := (0 : Int32)) hx hb dX6_faultOf_104 (by decide) ?_
                    exact L105 v1 (s1 + s0) v3 (0 : Int32) hf H locs ls hP hD hS (lv_sub hl [1, 2, 0, 3] rfl)
                  · have hf := if_t c_97 hf
                    refine lv_iconst (v := (1 : Int32)) hx hb dX6_faultOf_100 (by decide) ?_
                    refine lv_goto (tgt := 105) hx hb dX6_faultOf_101 (by decide) ?_
                    exact L105 v1 (s1 + s0) v3 (1 : Int32) hf H locs ls hP hD hS (lv_sub hl [1, 2, 0, 3] rfl)
      intro v1 v2 v3 hf H locs ls hP hD hS hl
      rw [f_X6_faultOf_6] at hf
      refine lv_iload_n hx hb dX6_faultOf_6 rfl (lv_at hl 3 rfl) ?_
      refine lv_aload_n hx hb dX6_faultOf_7 rfl (lv_at hl 0 rfl) ?_
      refine gf_X6_61 X hP 0 rfl rfl dX6_faultOf_8 ?_
      refine lv_icmp_ge (tgt := 136) hx hb dX6_faultOf_11 (by decide) (fun c_11 => ?_) (fun c_11 => ?_)
      · have hf := if_t c_11 hf
        refine lv_aload_n hx hb dX6_faultOf_136 rfl (lv_at hl 0 rfl) ?_
        refine gf_X6_61 X hP 0 rfl rfl dX6_faultOf_137 ?_
        refine lv_if_ne (tgt := 147) hx hb dX6_faultOf_140 (by decide) (fun c_140 => ?_) (fun c_140 => ?_)
        · have hf := if_f c_140 hf
          refine lv_bipush (v := (-6 : Int32)) hx hb dX6_faultOf_147 (by decide) ?_
          exact fin' _ hf 149 ls H locs dX6_faultOf_149 rfl hP hD hS
        · have hf := if_t c_140 hf
          refine lv_iconst (v := (0 : Int32)) hx hb dX6_faultOf_143 (by decide) ?_
          refine lv_goto (tgt := 149) hx hb dX6_faultOf_144 (by decide) ?_
          exact fin' _ hf 149 ls H locs dX6_faultOf_149 rfl hP hD hS
      · have hf := if_f c_11 hf
        refine lv_aload_n hx hb dX6_faultOf_14 rfl (lv_at hl 0 rfl) ?_
        refine gf_X6_7 X hP 0 rfl rfl dX6_faultOf_15 ?_
        refine lv_iload_n hx hb dX6_faultOf_18 rfl (lv_at hl 3 rfl) ?_
        obtain ⟨hi19, hf⟩ := ck_some hf
        refine r_iald X hP 1 rfl hi19 dX6_faultOf_19 ?_
        refine lv_istore (lv' := [(4, .int (x_t_pad (ix v3))), (0, .ref a_t), (1, .int v1), (2, .int v2), (3, .int v3)]) hx hb dX6_faultOf_20 hl (by decide) rfl (fun ls hl => ?_)
        refine lv_iload_n hx hb dX6_faultOf_22 rfl (lv_at hl 2 rfl) ?_
        refine lv_iload hx hb dX6_faultOf_23 (lv_at hl 0 rfl) ?_
        refine lv_bipush (v := (42 : Int32)) hx hb dX6_faultOf_25 (by decide) ?_
        refine lv_icmp_ne (tgt := 34) hx hb dX6_faultOf_27 (by decide) (fun c_27 => ?_) (fun c_27 => ?_)
        · have hf := if_f c_27 hf
          refine lv_iconst (v := (0 : Int32)) hx hb dX6_faultOf_34 (by decide) ?_
          refine lv_iadd hx hb dX6_faultOf_35 ?_
          refine lv_istore_n (lv' := [(1, .int (v1 + (0 : Int32))), (4, .int (x_t_pad (ix v3))), (0, .ref a_t), (2, .int v2), (3, .int v3)]) hx hb dX6_faultOf_36 rfl hl (by decide) rfl (fun ls hl => ?_)
          refine lv_iload_n hx hb dX6_faultOf_37 rfl (lv_at hl 3 rfl) ?_
          refine lv_iload hx hb dX6_faultOf_38 (lv_at hl 1 rfl) ?_
          refine lv_bipush (v := (63 : Int32)) hx hb dX6_faultOf_40 (by decide) ?_
          refine lv_icmp_ne (tgt := 49) hx hb dX6_faultOf_42 (by decide) (fun c_42 => ?_) (fun c_42 => ?_)
          · have hf := if_f c_42 hf
            refine lv_iconst (v := (0 : Int32)) hx hb dX6_faultOf_49 (by decide) ?_
            exact L50 (v1 + (0 : Int32)) v3 (x_t_pad (ix v3)) (0 : Int32) v2 hf H locs ls hP hD hS (lv_sub hl [2, 0, 4, 1] rfl)
          · have hf := if_t c_42 hf
            refine lv_iconst (v := (1 : Int32)) hx hb dX6_faultOf_45 (by decide) ?_
            refine lv_goto (tgt := 50) hx hb dX6_faultOf_46 (by decide) ?_
            exact L50 (v1 + (0 : Int32)) v3 (x_t_pad (ix v3)) (1 : Int32) v2 hf H locs ls hP hD hS (lv_sub hl [2, 0, 4, 1] rfl)
        · have hf := if_t c_27 hf
          refine lv_iconst (v := (1 : Int32)) hx hb dX6_faultOf_30 (by decide) ?_
          refine lv_goto (tgt := 35) hx hb dX6_faultOf_31 (by decide) ?_
          refine lv_iadd hx hb dX6_faultOf_35 ?_
          refine lv_istore_n (lv' := [(1, .int (v1 + (1 : Int32))), (4, .int (x_t_pad (ix v3))), (0, .ref a_t), (2, .int v2), (3, .int v3)]) hx hb dX6_faultOf_36 rfl hl (by decide) rfl (fun ls hl => ?_)
          refine lv_iload_n hx hb dX6_faultOf_37 rfl (lv_at hl 3 rfl) ?_
          refine lv_iload hx hb dX6_faultOf_38 (lv_at hl 1 rfl) ?_
          refine lv_bipush (v := (63 : Int32)) hx hb dX6_faultOf_40 (by decide) ?_
          refine lv_icmp_ne (tgt := 49) hx hb dX6_faultOf_42 (by decide) (fun c_42 => ?_) (fun c_42 => ?_)
          · have hf := if_f c_42 hf
            refine lv_iconst (v := (0 : Int32)) hx hb dX6_faultOf_49 (by decide) ?_
            exact L50 (v1 + (1 : Int32)) v3 (x_t_pad (ix v3)) (0 : Int32) v2 hf H locs ls hP hD hS (lv_sub hl [2, 0, 4, 1] rfl)
          · have hf := if_t c_42 hf
            refine lv_iconst (v := (1 : Int32)) hx hb dX6_faultOf_45 (by decide) ?_
            refine lv_goto (tgt := 50) hx hb dX6_faultOf_46 (by decide) ?_
            exact L50 (v1 + (1 : Int32)) v3 (x_t_pad (ix v3)) (1 : Int32) v2 hf H locs ls hP hD hS (lv_sub hl [2, 0, 4, 1] rfl)
  have hS : va_S A s.heap s.heap [] := va_S.rf
  obtain ⟨H, hH9⟩ : ∃ z, z = s.heap := ⟨_, rfl⟩
  obtain ⟨locs, hL9⟩ : ∃ z : List Loc, z = [] := ⟨_, rfl⟩
  rw [← hL9]
  rw [← hL9] at hS
  have hP : va_P E.1 vwCl (wd_X6_faultOf E a_t a_t_pad x_t_signs x_t_places w_t_page x_t_begins x_t_court x_t_allowed w_t_weight x_t_sights w_t_sight w_t_count x_t_opens w_t_open w_t_behind w_t_outs w_t_pack w_t_image w_t_isKept x_t_pad) H := by rw [hH9]; exact hP
  have hS : va_S A s.heap H locs := by rw [hH9]; exact hS
  suffices hgoal : W p l e (rmm 1 22) s m ([.ref a_t] : List Value).toArray below meth c H locs 0 0 Q (F0 m 0 ls []) by rw [hH9] at hgoal; exact hgoal
  rw [f_X6_faultOf] at hf
  refine lv_iconst (v := (0 : Int32)) hx hb dX6_faultOf_0 (by decide) ?_
  refine lv_istore_n (lv' := [(1, .int (0 : Int32)), (0, .ref a_t)]) hx hb dX6_faultOf_1 rfl hl (by decide) rfl (fun ls hl => ?_)
  refine lv_iconst (v := (0 : Int32)) hx hb dX6_faultOf_2 (by decide) ?_
  refine lv_istore_n (lv' := [(2, .int (0 : Int32)), (1, .int (0 : Int32)), (0, .ref a_t)]) hx hb dX6_faultOf_3 rfl hl (by decide) rfl (fun ls hl => ?_)
  refine lv_iconst (v := (0 : Int32)) hx hb dX6_faultOf_4 (by decide) ?_
  refine lv_istore_n (lv' := [(3, .int (0 : Int32)), (2, .int (0 : Int32)), (1, .int (0 : Int32)), (0, .ref a_t)]) hx hb dX6_faultOf_5 rfl hl (by decide) rfl (fun ls hl => ?_)
  exact L6 FU (0 : Int32) (0 : Int32) (0 : Int32) hf H locs ls hP hD hS (lv_sub hl [3, 2, 1, 0] rfl)
abbrev wd_X6_fault (E : EN) (a_t : Nat) (a_t_pad : Nat) (x_t_signs : Int32) (x_t_places : Int32) (w_t_page : Value) (x_t_begins : Int32) (x_t_court : Int32) (x_t_allowed : Int32) (w_t_weight : Value) (x_t_sights : Int32) (w_t_sight : Value) (w_t_count : Value) (x_t_opens : Int32) (w_t_open : Value) (w_t_behind : Value) (w_t_outs : Value) (w_t_pack : Value) (w_t_image : Value) (w_t_isKept : Value) (x_t_pad : Nat → Int32) : va_W := [(a_t, e_O 6 [.int x_t_signs, .ref a_t_pad, .int x_t_places, w_t_page, .int x_t_begins, .int x_t_court, .int x_t_allowed, w_t_weight, .int x_t_sights, w_t_sight, w_t_count, .int x_t_opens, w_t_open, w_t_behind, w_t_outs, w_t_pack, w_t_image, w_t_isKept]), (a_t_pad, e_I E 48 x_t_pad)]
def f_X6_fault (x_t_signs : Int32) (x_t_pad : Nat → Int32) : Option (Int32) :=
  Option.bind (f_X6_faultOf x_t_signs x_t_pad) (fun r1 =>
  some r1)
set_option maxHeartbeats 4000000 in
set_option maxRecDepth 100000 in
theorem c_X6_fault (l : Launch) (E : EN) (a_t a_t_pad : Nat) (x_t_signs : Int32) (x_t_places : Int32) (w_t_page : Value) (x_t_begins : Int32) (x_t_court : Int32) (x_t_allowed : Int32) (w_t_weight : Value) (x_t_sights : Int32) (w_t_sight : Value) (w_t_count : Value) (x_t_opens : Int32) (w_t_open : Value) (w_t_behind : Value) (w_t_outs : Value) (w_t_pack : Value) (w_t_image : Value) (w_t_isKept : Value) (x_t_pad : Nat → Int32)  (res : Int32) (hf : f_X6_fault x_t_signs x_t_pad = some res) : CtI l yX6_fault cX6_fault 1 .int 2 47 E [.ref a_t] (wd_X6_fault E a_t a_t_pad x_t_signs x_t_places w_t_page x_t_begins x_t_court x_t_allowed w_t_weight x_t_sights w_t_sight w_t_count x_t_opens w_t_open w_t_behind w_t_outs w_t_pack w_t_image w_t_isKept x_t_pad) (wd_X6_fault E a_t a_t_pad x_t_signs x_t_places w_t_page x_t_begins x_t_court x_t_allowed w_t_weight x_t_sights w_t_sight w_t_count x_t_opens w_t_open w_t_behind w_t_outs w_t_pack w_t_image w_t_isKept x_t_pad) res := by
  refine CtI.of RX6 (by decide) rfl (Nat.le_of_ble_eq_true rfl) ?_
  intro p e s m below meth c A Q ls X hA hP hD hl fin
  have hx := X.1
  have hb := X.2.1
  have hl : lv_has ls 1 [(0, .ref a_t)] := hl
  have fin' : ∀ (fr0 : Int32), some fr0 = some res → ∀ (pc : Nat) (ls : Array Slot) (H : Heap) (locs : List Loc), decode cX6_fault pc = .ok (.ireturn, 1) → narrow .int (.int fr0) = .int fr0 → va_P E.1 vwCl (wd_X6_fault E a_t a_t_pad x_t_signs x_t_places w_t_page x_t_begins x_t_court x_t_allowed w_t_weight x_t_sights w_t_sight w_t_count x_t_opens w_t_open w_t_behind w_t_outs w_t_pack w_t_image w_t_isKept x_t_pad) H → va_D A (wd_X6_fault E a_t a_t_pad x_t_signs x_t_places w_t_page x_t_begins x_t_court x_t_allowed w_t_weight x_t_sights w_t_sight w_t_count x_t_opens w_t_open w_t_behind w_t_outs w_t_pack w_t_image w_t_isKept x_t_pad) → va_S A s.heap H locs → W p l e (rmm 2 47) s m ([.ref a_t] : List Value).toArray below meth c H locs 0 0 Q (F0 m pc ls [.int fr0]) := by
    intro fr0 he
    cases he
    exact fin
  have hS : va_S A s.heap s.heap [] := va_S.rf
  obtain ⟨H, hH9⟩ : ∃ z, z = s.heap := ⟨_, rfl⟩
  obtain ⟨locs, hL9⟩ : ∃ z : List Loc, z = [] := ⟨_, rfl⟩
  rw [← hL9]
  rw [← hL9] at hS
  have hP : va_P E.1 vwCl (wd_X6_fault E a_t a_t_pad x_t_signs x_t_places w_t_page x_t_begins x_t_court x_t_allowed w_t_weight x_t_sights w_t_sight w_t_count x_t_opens w_t_open w_t_behind w_t_outs w_t_pack w_t_image w_t_isKept x_t_pad) H := by rw [hH9]; exact hP
  have hS : va_S A s.heap H locs := by rw [hH9]; exact hS
  suffices hgoal : W p l e (rmm 2 47) s m ([.ref a_t] : List Value).toArray below meth c H locs 0 0 Q (F0 m 0 ls []) by rw [hH9] at hgoal; exact hgoal
  rw [f_X6_fault] at hf
  refine lv_aload_n hx hb dX6_fault_0 rfl (lv_at hl 0 rfl) ?_
  obtain ⟨r1, hc1, hf⟩ := bd_some hf
  refine cV_I X hA hP hD hS hl.1 (c_X6_faultOf l E a_t a_t_pad x_t_signs x_t_places w_t_page x_t_begins x_t_court x_t_allowed w_t_weight x_t_sights w_t_sight w_t_count x_t_opens w_t_open w_t_behind w_t_outs w_t_pack w_t_image w_t_isKept x_t_pad r1 hc1) 0 k_703 mw_X6_faultOf hd_X6_faultOf ⟨Nat.le_of_ble_eq_true rfl, Nat.le_of_ble_eq_true rfl⟩ [0, 1] [] [0, 1] rfl rfl (wr := []) rfl rfl rfl 6 0 rfl rfl rfl rfl rfl (Nat.le_of_ble_eq_true rfl) rfl (ws' := (wd_X6_fault E a_t a_t_pad x_t_signs x_t_places w_t_page x_t_begins x_t_court x_t_allowed w_t_weight x_t_sights w_t_sight w_t_count x_t_opens w_t_open w_t_behind w_t_outs w_t_pack w_t_image w_t_isKept x_t_pad)) rfl ⟨Nat.le_of_ble_eq_true rfl, Nat.le_of_ble_eq_true rfl⟩ dX6_fault_1 (fun H locs hP hD hS => ?_)
  exact fin' _ hf 4 ls H locs dX6_fault_4 rfl hP hD hS
abbrev wd_X6_page (E : EN) (a_t : Nat) (a_t_pad : Nat) (a_t_page : Nat) (x_t_signs : Int32) (x_t_places : Int32) (x_t_begins : Int32) (x_t_court : Int32) (x_t_allowed : Int32) (w_t_weight : Value) (x_t_sights : Int32) (w_t_sight : Value) (w_t_count : Value) (x_t_opens : Int32) (w_t_open : Value) (w_t_behind : Value) (w_t_outs : Value) (w_t_pack : Value) (w_t_image : Value) (w_t_isKept : Value) (x_t_pad : Nat → Int32) (x_t_page : Nat → Int32) : va_W := [(a_t, e_O 6 [.int x_t_signs, .ref a_t_pad, .int x_t_places, .ref a_t_page, .int x_t_begins, .int x_t_court, .int x_t_allowed, w_t_weight, .int x_t_sights, w_t_sight, w_t_count, .int x_t_opens, w_t_open, w_t_behind, w_t_outs, w_t_pack, w_t_image, w_t_isKept]), (a_t_pad, e_I E 48 x_t_pad), (a_t_page, e_I E 40 x_t_page)]
def f_X6_page_20 (x_t_pad : Nat → Int32)  : Nat → Int32 → Int32 → Int32 → Int32 → Int32 → (Nat → Int32) → Option (Int32 × Int32 × Int32 × Int32 × Int32 × (Nat → Int32))
  | 0, _, _, _, _, _, _ => none
  | n_ + 1, v1, m_t_signs, m_t_places, m_t_begins, m_t_sights, m_t_page =>
    if m_t_signs ≤ v1 then
      some (m_t_places, (0 : Int32), m_t_places, (1 : Int32), (0 : Int32), m_t_page)
    else
      ck (inB v1 48) (
      ck (inB v1 40) (
      f_X6_page_20 x_t_pad n_ (v1 + (1 : Int32)) m_t_signs m_t_places m_t_begins m_t_sights (upd m_t_page (ix v1) (x_t_pad (ix v1)))))
def f_X6_page (x_t_signs : Int32) (x_t_places : Int32) (x_t_begins : Int32) (x_t_sights : Int32) (x_t_pad : Nat → Int32) (x_t_page : Nat → Int32) : Option (Int32 × Int32 × Int32 × Int32 × Int32 × (Nat → Int32)) :=
  Option.bind (f_X6_faultOf x_t_signs x_t_pad) (fun r1 =>
  if r1 < 0 then
    f_X6_page_20 x_t_pad FU (0 : Int32) x_t_signs x_t_signs x_t_begins x_t_sights x_t_page
  else
    some ((-5 : Int32), x_t_signs, x_t_places, x_t_begins, x_t_sights, x_t_page))
set_option maxHeartbeats 4000000 in
set_option maxRecDepth 100000 in
theorem c_X6_page (l : Launch) (E : EN) (a_t a_t_pad a_t_page : Nat) (x_t_signs : Int32) (x_t_places : Int32) (x_t_begins : Int32) (x_t_court : Int32) (x_t_allowed : Int32) (w_t_weight : Value) (x_t_sights : Int32) (w_t_sight : Value) (w_t_count : Value) (x_t_opens : Int32) (w_t_open : Value) (w_t_behind : Value) (w_t_outs : Value) (w_t_pack : Value) (w_t_image : Value) (w_t_isKept : Value) (x_t_pad : Nat → Int32) (x_t_page : Nat → Int32)  (res : Int32 × Int32 × Int32 × Int32 × Int32 × (Nat → Int32)) (hf : f_X6_page x_t_signs x_t_places x_t_begins x_t_sights x_t_pad x_t_page = some res) : CtI l yX6_page cX6_page 2 .int 2 47 E [.ref a_t] (wd_X6_page E a_t a_t_pad a_t_page x_t_signs x_t_places x_t_begins x_t_court x_t_allowed w_t_weight x_t_sights w_t_sight w_t_count x_t_opens w_t_open w_t_behind w_t_outs w_t_pack w_t_image w_t_isKept x_t_pad x_t_page) (wd_X6_page E a_t a_t_pad a_t_page res.2.1 res.2.2.1 res.2.2.2.1 x_t_court x_t_allowed w_t_weight res.2.2.2.2.1 w_t_sight w_t_count x_t_opens w_t_open w_t_behind w_t_outs w_t_pack w_t_image w_t_isKept x_t_pad res.2.2.2.2.2) res.1 := by
  refine CtI.of RX6 (by decide) rfl (Nat.le_of_ble_eq_true rfl) ?_
  intro p e s m below meth c A Q ls X hA hP hD hl fin
  have hx := X.1
  have hb := X.2.1
  have hl : lv_has ls 2 [(0, .ref a_t)] := hl
  have fin' : ∀ (fr0 : Int32) (fr1 : Int32) (fr2 : Int32) (fr3 : Int32) (fr4 : Int32) (fr5 : (Nat → Int32)), some (fr0, fr1, fr2, fr3, fr4, fr5) = some res → ∀ (pc : Nat) (ls : Array Slot) (H : Heap) (locs : List Loc), decode cX6_page pc = .ok (.ireturn, 1) → narrow .int (.int fr0) = .int fr0 → va_P E.1 vwCl (wd_X6_page E a_t a_t_pad a_t_page fr1 fr2 fr3 x_t_court x_t_allowed w_t_weight fr4 w_t_sight w_t_count x_t_opens w_t_open w_t_behind w_t_outs w_t_pack w_t_image w_t_isKept x_t_pad fr5) H → va_D A (wd_X6_page E a_t a_t_pad a_t_page fr1 fr2 fr3 x_t_court x_t_allowed w_t_weight fr4 w_t_sight w_t_count x_t_opens w_t_open w_t_behind w_t_outs w_t_pack w_t_image w_t_isKept x_t_pad fr5) → va_S A s.heap H locs → W p l e (rmm 2 47) s m ([.ref a_t] : List Value).toArray below meth c H locs 0 0 Q (F0 m pc ls [.int fr0]) := by
    intro fr0 fr1 fr2 fr3 fr4 fr5 he
    cases he
    exact fin
  have L20 : ∀ (n20 : Nat) (v1 : Int32) (m_t_signs : Int32) (m_t_places : Int32) (m_t_begins : Int32) (m_t_sights : Int32) (m_t_page : Nat → Int32), f_X6_page_20 x_t_pad n20 v1 m_t_signs m_t_places m_t_begins m_t_sights m_t_page = some res → ∀ (H : Heap) (locs : List Loc) (ls : Array Slot), va_P E.1 vwCl (wd_X6_page E a_t a_t_pad a_t_page m_t_signs m_t_places m_t_begins x_t_court x_t_allowed w_t_weight m_t_sights w_t_sight w_t_count x_t_opens w_t_open w_t_behind w_t_outs w_t_pack w_t_image w_t_isKept x_t_pad m_t_page) H → va_D A (wd_X6_page E a_t a_t_pad a_t_page m_t_signs m_t_places m_t_begins x_t_court x_t_allowed w_t_weight m_t_sights w_t_sight w_t_count x_t_opens w_t_open w_t_behind w_t_outs w_t_pack w_t_image w_t_isKept x_t_pad m_t_page) → va_S A s.heap H locs → lv_has ls 2 [(0, .ref a_t), (1, .int v1)] → W p l e (rmm 2 47) s m ([.ref a_t] : List Value).toArray below meth c H locs 0 0 Q (F0 m 20 ls []) := by
    intro n20
    induction n20 with
    | zero => intro v1 m_t_signs m_t_places m_t_begins m_t_sights m_t_page hf; rw [f_X6_page_20] at hf; cases hf
    | succ n20 ih20 =>
      intro v1 m_t_signs m_t_places m_t_begins m_t_sights m_t_page hf H locs ls hP hD hS hl
      rw [f_X6_page_20] at hf
      refine lv_iload_n hx hb dX6_page_20 rfl (lv_at hl 1 rfl) ?_
      refine lv_aload_n hx hb dX6_page_21 rfl (lv_at hl 0 rfl) ?_
      refine gf_X6_61 X hP 0 rfl rfl dX6_page_22 ?_
      refine lv_icmp_ge (tgt := 46) hx hb dX6_page_25 (by decide) (fun c_25 => ?_) (fun c_25 => ?_)
      · have hf := if_t c_25 hf
        refine lv_aload_n hx hb dX6_page_46 rfl (lv_at hl 0 rfl) ?_
        refine lv_iconst (v := (0 : Int32)) hx hb dX6_page_47 (by decide) ?_
        refine pf_X6_61 X hP hD hS 0 rfl (Nat.le_of_ble_eq_true rfl) (ws' := (wd_X6_page E a_t a_t_pad a_t_page (0 : Int32) m_t_places m_t_begins x_t_court x_t_allowed w_t_weight m_t_sights w_t_sight w_t_count x_t_opens w_t_open w_t_behind w_t_outs w_t_pack w_t_image w_t_isKept x_t_pad m_t_page)) rfl dX6_page_48 (fun H locs hP hD hS => ?_)
        refine lv_aload_n hx hb dX6_page_51 rfl (lv_at hl 0 rfl) ?_
        refine lv_iconst (v := (0 : Int32)) hx hb dX6_page_52 (by decide) ?_
        refine pf_X6_72 X hP hD hS 0 rfl (Nat.le_of_ble_eq_true rfl) (ws' := (wd_X6_page E a_t a_t_pad a_t_page (0 : Int32) m_t_places m_t_begins x_t_court x_t_allowed w_t_weight (0 : Int32) w_t_sight w_t_count x_t_opens w_t_open w_t_behind w_t_outs w_t_pack w_t_image w_t_isKept x_t_pad m_t_page)) rfl dX6_page_53 (fun H locs hP hD hS => ?_)
        refine lv_aload_n hx hb dX6_page_56 rfl (lv_at hl 0 rfl) ?_
        refine lv_iconst (v := (1 : Int32)) hx hb dX6_page_57 (by decide) ?_
        refine pf_X6_20 X hP hD hS 0 rfl (Nat.le_of_ble_eq_true rfl) (ws' := (wd_X6_page E a_t a_t_pad a_t_page (0 : Int32) m_t_places (1 : Int32) x_t_court x_t_allowed w_t_weight (0 : Int32) w_t_sight w_t_count x_t_opens w_t_open w_t_behind w_t_outs w_t_pack w_t_image w_t_isKept x_t_pad m_t_page)) rfl dX6_page_58 (fun H locs hP hD hS => ?_)
        refine lv_aload_n hx hb dX6_page_61 rfl (lv_at hl 0 rfl) ?_
        refine gf_X6_13 X hP 0 rfl rfl dX6_page_62 ?_
        exact fin' _ _ _ _ _ _ hf 65 ls H locs dX6_page_65 rfl hP hD hS
      · have hf := if_f c_25 hf
        refine lv_aload_n hx hb dX6_page_28 rfl (lv_at hl 0 rfl) ?_
        refine gf_X6_17 X hP 0 rfl rfl dX6_page_29 ?_
        refine lv_iload_n hx hb dX6_page_32 rfl (lv_at hl 1 rfl) ?_
        refine lv_aload_n hx hb dX6_page_33 rfl (lv_at hl 0 rfl) ?_
        refine gf_X6_7 X hP 0 rfl rfl dX6_page_34 ?_
        refine lv_iload_n hx hb dX6_page_37 rfl (lv_at hl 1 rfl) ?_
        obtain ⟨hi38, hf⟩ := ck_some hf
        refine r_iald X hP 1 rfl hi38 dX6_page_38 ?_
        obtain ⟨hi39, hf⟩ := ck_some hf
        refine r_iast X hP hD hS 2 rfl hi39 (ws' := (wd_X6_page E a_t a_t_pad a_t_page m_t_signs m_t_places m_t_begins x_t_court x_t_allowed w_t_weight m_t_sights w_t_sight w_t_count x_t_opens w_t_open w_t_behind w_t_outs w_t_pack w_t_image w_t_isKept x_t_pad (upd m_t_page (ix v1) (x_t_pad (ix v1))))) rfl dX6_page_39 (fun H locs hP hD hS => ?_)
        refine lv_iinc (v := (v1 + (1 : Int32))) (lv' := [(1, .int (v1 + (1 : Int32))), (0, .ref a_t)]) hx hb dX6_page_40 hl (k := 1) rfl rfl (by decide) rfl (fun ls hl => ?_)
        refine lv_goto (tgt := 20) hx hb dX6_page_43 (by decide) ?_
        exact ih20 (v1 + (1 : Int32)) m_t_signs m_t_places m_t_begins m_t_sights (upd m_t_page (ix v1) (x_t_pad (ix v1))) hf H locs ls hP hD hS (lv_sub hl [1, 0] rfl)
  have hS : va_S A s.heap s.heap [] := va_S.rf
  obtain ⟨H, hH9⟩ : ∃ z, z = s.heap := ⟨_, rfl⟩
  obtain ⟨locs, hL9⟩ : ∃ z : List Loc, z = [] := ⟨_, rfl⟩
  rw [← hL9]
  rw [← hL9] at hS
  have hP : va_P E.1 vwCl (wd_X6_page E a_t a_t_pad a_t_page x_t_signs x_t_places x_t_begins x_t_court x_t_allowed w_t_weight x_t_sights w_t_sight w_t_count x_t_opens w_t_open w_t_behind w_t_outs w_t_pack w_t_image w_t_isKept x_t_pad x_t_page) H := by rw [hH9]; exact hP
  have hS : va_S A s.heap H locs := by rw [hH9]; exact hS
  suffices hgoal : W p l e (rmm 2 47) s m ([.ref a_t] : List Value).toArray below meth c H locs 0 0 Q (F0 m 0 ls []) by rw [hH9] at hgoal; exact hgoal
  rw [f_X6_page] at hf
  refine lv_aload_n hx hb dX6_page_0 rfl (lv_at hl 0 rfl) ?_
  obtain ⟨r1, hc1, hf⟩ := bd_some hf
  refine cV_I X hA hP hD hS hl.1 (c_X6_faultOf l E a_t a_t_pad x_t_signs x_t_places (.ref a_t_page) x_t_begins x_t_court x_t_allowed w_t_weight x_t_sights w_t_sight w_t_count x_t_opens w_t_open w_t_behind w_t_outs w_t_pack w_t_image w_t_isKept x_t_pad r1 hc1) 0 k_703 mw_X6_faultOf hd_X6_faultOf ⟨Nat.le_of_ble_eq_true rfl, Nat.le_of_ble_eq_true rfl⟩ [0, 1] [2] [1, 2, 0] rfl rfl (wr := [2].filterMap (fun i => (wd_X6_page E a_t a_t_pad a_t_page x_t_signs x_t_places x_t_begins x_t_court x_t_allowed w_t_weight x_t_sights w_t_sight w_t_count x_t_opens w_t_open w_t_behind w_t_outs w_t_pack w_t_image w_t_isKept x_t_pad x_t_page)[i]?)) rfl rfl rfl 6 0 rfl rfl rfl rfl rfl (Nat.le_of_ble_eq_true rfl) rfl (ws' := (wd_X6_page E a_t a_t_pad a_t_page x_t_signs x_t_places x_t_begins x_t_court x_t_allowed w_t_weight x_t_sights w_t_sight w_t_count x_t_opens w_t_open w_t_behind w_t_outs w_t_pack w_t_image w_t_isKept x_t_pad x_t_page)) rfl ⟨Nat.le_of_ble_eq_true rfl, Nat.le_of_ble_eq_true rfl⟩ dX6_page_1 (fun H locs hP hD hS => ?_)
  refine lv_if_lt (tgt := 10) hx hb dX6_page_4 (by decide) (fun c_4 => ?_) (fun c_4 => ?_)
  · have hf := if_t c_4 hf
    refine lv_aload_n hx hb dX6_page_10 rfl (lv_at hl 0 rfl) ?_
    refine lv_aload_n hx hb dX6_page_11 rfl (lv_at hl 0 rfl) ?_
    refine gf_X6_61 X hP 0 rfl rfl dX6_page_12 ?_
    refine pf_X6_13 X hP hD hS 0 rfl (Nat.le_of_ble_eq_true rfl) (ws' := (wd_X6_page E a_t a_t_pad a_t_page x_t_signs x_t_signs x_t_begins x_t_court x_t_allowed w_t_weight x_t_sights w_t_sight w_t_count x_t_opens w_t_open w_t_behind w_t_outs w_t_pack w_t_image w_t_isKept x_t_pad x_t_page)) rfl dX6_page_15 (fun H locs hP hD hS => ?_)
    refine lv_iconst (v := (0 : Int32)) hx hb dX6_page_18 (by decide) ?_
    refine lv_istore_n (lv' := [(1, .int (0 : Int32)), (0, .ref a_t)]) hx hb dX6_page_19 rfl hl (by decide) rfl (fun ls hl => ?_)
    exact L20 FU (0 : Int32) x_t_signs x_t_signs x_t_begins x_t_sights x_t_page hf H locs ls hP hD hS (lv_sub hl [1, 0] rfl)
  · have hf := if_f c_4 hf
    refine lv_bipush (v := (-5 : Int32)) hx hb dX6_page_7 (by decide) ?_
    exact fin' _ _ _ _ _ _ hf 9 ls H locs dX6_page_9 rfl hP hD hS
abbrev wd_X6_begin (E : EN) (a_t : Nat) (x_t_signs : Int32) (w_t_pad : Value) (x_t_places : Int32) (w_t_page : Value) (x_t_begins : Int32) (x_t_court : Int32) (x_t_allowed : Int32) (w_t_weight : Value) (x_t_sights : Int32) (w_t_sight : Value) (w_t_count : Value) (x_t_opens : Int32) (w_t_open : Value) (w_t_behind : Value) (w_t_outs : Value) (w_t_pack : Value) (w_t_image : Value) (w_t_isKept : Value) : va_W := [(a_t, e_O 6 [.int x_t_signs, w_t_pad, .int x_t_places, w_t_page, .int x_t_begins, .int x_t_court, .int x_t_allowed, w_t_weight, .int x_t_sights, w_t_sight, w_t_count, .int x_t_opens, w_t_open, w_t_behind, w_t_outs, w_t_pack, w_t_image, w_t_isKept])]
def f_X6_begin_20 (p1 : Int32)  (s0 : Int32) (s1 : Int32) (s2 : Int32) (m_t_begins : Int32) : Option (Int32 × Int32) :=
  Option.bind (f_X6_in s2 s1 s0) (fun r20 =>
  if r20 = 0 then
    some ((-2 : Int32), m_t_begins)
  else
    some (m_t_begins, p1))
def f_X6_begin (p1 : Int32) (x_t_places : Int32) (x_t_begins : Int32) : Option (Int32 × Int32) :=
  if (10 : Int32) ≤ x_t_places then
    f_X6_begin_20 p1 (10 : Int32) (1 : Int32) p1 x_t_begins
  else
    f_X6_begin_20 p1 x_t_places (1 : Int32) p1 x_t_begins
set_option maxHeartbeats 4000000 in
set_option maxRecDepth 100000 in
theorem c_X6_begin (l : Launch) (E : EN) (a_t : Nat) (x_t_signs : Int32) (w_t_pad : Value) (x_t_places : Int32) (w_t_page : Value) (x_t_begins : Int32) (x_t_court : Int32) (x_t_allowed : Int32) (w_t_weight : Value) (x_t_sights : Int32) (w_t_sight : Value) (w_t_count : Value) (x_t_opens : Int32) (w_t_open : Value) (w_t_behind : Value) (w_t_outs : Value) (w_t_pack : Value) (w_t_image : Value) (w_t_isKept : Value) (p1 : Int32) (res : Int32 × Int32) (hf : f_X6_begin p1 x_t_places x_t_begins = some res) : CtI l yX6_begin cX6_begin 3 .int 1 22 E [.ref a_t, .int p1] (wd_X6_begin E a_t x_t_signs w_t_pad x_t_places w_t_page x_t_begins x_t_court x_t_allowed w_t_weight x_t_sights w_t_sight w_t_count x_t_opens w_t_open w_t_behind w_t_outs w_t_pack w_t_image w_t_isKept) (wd_X6_begin E a_t x_t_signs w_t_pad x_t_places w_t_page res.2 x_t_court x_t_allowed w_t_weight x_t_sights w_t_sight w_t_count x_t_opens w_t_open w_t_behind w_t_outs w_t_pack w_t_image w_t_isKept) res.1 := by
  refine CtI.of RX6 (by decide) rfl (Nat.le_of_ble_eq_true rfl) ?_
  intro p e s m below meth c A Q ls X hA hP hD hl fin
  have hx := X.1
  have hb := X.2.1
  have hl : lv_has ls 3 [(0, .ref a_t), (1, .int p1)] := hl
  have fin' : ∀ (fr0 : Int32) (fr1 : Int32), some (fr0, fr1) = some res → ∀ (pc : Nat) (ls : Array Slot) (H : Heap) (locs : List Loc), decode cX6_begin pc = .ok (.ireturn, 1) → narrow .int (.int fr0) = .int fr0 → va_P E.1 vwCl (wd_X6_begin E a_t x_t_signs w_t_pad x_t_places w_t_page fr1 x_t_court x_t_allowed w_t_weight x_t_sights w_t_sight w_t_count x_t_opens w_t_open w_t_behind w_t_outs w_t_pack w_t_image w_t_isKept) H → va_D A (wd_X6_begin E a_t x_t_signs w_t_pad x_t_places w_t_page fr1 x_t_court x_t_allowed w_t_weight x_t_sights w_t_sight w_t_count x_t_opens w_t_open w_t_behind w_t_outs w_t_pack w_t_image w_t_isKept) → va_S A s.heap H locs → W p l e (rmm 1 22) s m ([.ref a_t, .int p1] : List Value).toArray below meth c H locs 0 0 Q (F0 m pc ls [.int fr0]) := by
    intro fr0 fr1 he
    cases he
    exact fin
  have L20 : ∀ (s0 : Int32) (s1 : Int32) (s2 : Int32) (m_t_begins : Int32), f_X6_begin_20 p1 s0 s1 s2 m_t_begins = some res → ∀ (H : Heap) (locs : List Loc) (ls : Array Slot), va_P E.1 vwCl (wd_X6_begin E a_t x_t_signs w_t_pad x_t_places w_t_page m_t_begins x_t_court x_t_allowed w_t_weight x_t_sights w_t_sight w_t_count x_t_opens w_t_open w_t_behind w_t_outs w_t_pack w_t_image w_t_isKept) H → va_D A (wd_X6_begin E a_t x_t_signs w_t_pad x_t_places w_t_page m_t_begins x_t_court x_t_allowed w_t_weight x_t_sights w_t_sight w_t_count x_t_opens w_t_open w_t_behind w_t_outs w_t_pack w_t_image w_t_isKept) → va_S A s.heap H locs → lv_has ls 3 [(0, .ref a_t), (1, .int p1)] → W p l e (rmm 1 22) s m ([.ref a_t, .int p1] : List Value).toArray below meth c H locs 0 0 Q (F0 m 20 ls [.int s0, .int s1, .int s2]) := by
    intro s0 s1 s2 m_t_begins hf H locs ls hP hD hS hl
    rw [f_X6_begin_20] at hf
    obtain ⟨r20, hc20, hf⟩ := bd_some hf
    refine cS_I X hA hP hD hS hl.1 (c_X6_in l E s2 s1 s0 r20 hc20) 3 k_692 mw_X6_in hd_X6_in ⟨Nat.le_of_ble_eq_true rfl, Nat.le_of_ble_eq_true rfl⟩ [] [0] [0] rfl rfl (wr := [0].filterMap (fun i => (wd_X6_begin E a_t x_t_signs w_t_pad x_t_places w_t_page m_t_begins x_t_court x_t_allowed w_t_weight x_t_sights w_t_sight w_t_count x_t_opens w_t_open w_t_behind w_t_outs w_t_pack w_t_image w_t_isKept)[i]?)) rfl rfl rfl rfl rfl (Nat.le_of_ble_eq_true rfl) rfl (ws' := (wd_X6_begin E a_t x_t_signs w_t_pad x_t_places w_t_page m_t_begins x_t_court x_t_allowed w_t_weight x_t_sights w_t_sight w_t_count x_t_opens w_t_open w_t_behind w_t_outs w_t_pack w_t_image w_t_isKept)) rfl ⟨Nat.le_of_ble_eq_true rfl, Nat.le_of_ble_eq_true rfl⟩ dX6_begin_20 (fun H locs hP hD hS => ?_)
    refine lv_if_ne (tgt := 29) hx hb dX6_begin_23 (by decide) (fun c_23 => ?_) (fun c_23 => ?_)
    · have hf := if_f c_23 hf
      refine lv_aload_n hx hb dX6_begin_29 rfl (lv_at hl 0 rfl) ?_
      refine gf_X6_20 X hP 0 rfl rfl dX6_begin_30 ?_
      refine lv_istore_n (lv' := [(2, .int m_t_begins), (0, .ref a_t), (1, .int p1)]) hx hb dX6_begin_33 rfl hl (by decide) rfl (fun ls hl => ?_)
      refine lv_aload_n hx hb dX6_begin_34 rfl (lv_at hl 1 rfl) ?_
      refine lv_iload_n hx hb dX6_begin_35 rfl (lv_at hl 2 rfl) ?_
      refine pf_X6_20 X hP hD hS 0 rfl (Nat.le_of_ble_eq_true rfl) (ws' := (wd_X6_begin E a_t x_t_signs w_t_pad x_t_places w_t_page p1 x_t_court x_t_allowed w_t_weight x_t_sights w_t_sight w_t_count x_t_opens w_t_open w_t_behind w_t_outs w_t_pack w_t_image w_t_isKept)) rfl dX6_begin_36 (fun H locs hP hD hS => ?_)
      refine lv_iload_n hx hb dX6_begin_39 rfl (lv_at hl 0 rfl) ?_
      exact fin' _ _ hf 40 ls H locs dX6_begin_40 rfl hP hD hS
    · have hf := if_t c_23 hf
      refine lv_bipush (v := (-2 : Int32)) hx hb dX6_begin_26 (by decide) ?_
      exact fin' _ _ hf 28 ls H locs dX6_begin_28 rfl hP hD hS
  have hS : va_S A s.heap s.heap [] := va_S.rf
  obtain ⟨H, hH9⟩ : ∃ z, z = s.heap := ⟨_, rfl⟩
  obtain ⟨locs, hL9⟩ : ∃ z : List Loc, z = [] := ⟨_, rfl⟩
  rw [← hL9]
  rw [← hL9] at hS
  have hP : va_P E.1 vwCl (wd_X6_begin E a_t x_t_signs w_t_pad x_t_places w_t_page x_t_begins x_t_court x_t_allowed w_t_weight x_t_sights w_t_sight w_t_count x_t_opens w_t_open w_t_behind w_t_outs w_t_pack w_t_image w_t_isKept) H := by rw [hH9]; exact hP
  have hS : va_S A s.heap H locs := by rw [hH9]; exact hS
  suffices hgoal : W p l e (rmm 1 22) s m ([.ref a_t, .int p1] : List Value).toArray below meth c H locs 0 0 Q (F0 m 0 ls []) by rw [hH9] at hgoal; exact hgoal
  rw [f_X6_begin] at hf
  refine lv_iload_n hx hb dX6_begin_0 rfl (lv_at hl 1 rfl) ?_
  refine lv_iconst (v := (1 : Int32)) hx hb dX6_begin_1 (by decide) ?_
  refine lv_aload_n hx hb dX6_begin_2 rfl (lv_at hl 0 rfl) ?_
  refine gf_X6_13 X hP 0 rfl rfl dX6_begin_3 ?_
  refine lv_bipush (v := (10 : Int32)) hx hb dX6_begin_6 (by decide) ?_
  refine lv_icmp_ge (tgt := 18) hx hb dX6_begin_8 (by decide) (fun c_8 => ?_) (fun c_8 => ?_)
  · have hf := if_t c_8 hf
    refine lv_bipush (v := (10 : Int32)) hx hb dX6_begin_18 (by decide) ?_
    exact L20 (10 : Int32) (1 : Int32) p1 x_t_begins hf H locs ls hP hD hS (lv_sub hl [0, 1] rfl)
  · have hf := if_f c_8 hf
    refine lv_aload_n hx hb dX6_begin_11 rfl (lv_at hl 0 rfl) ?_
    refine gf_X6_13 X hP 0 rfl rfl dX6_begin_12 ?_
    refine lv_goto (tgt := 20) hx hb dX6_begin_15 (by decide) ?_
    exact L20 x_t_places (1 : Int32) p1 x_t_begins hf H locs ls hP hD hS (lv_sub hl [0, 1] rfl)
abbrev wd_X6_court (E : EN) (a_t : Nat) (x_t_signs : Int32) (w_t_pad : Value) (x_t_places : Int32) (w_t_page : Value) (x_t_begins : Int32) (x_t_court : Int32) (x_t_allowed : Int32) (w_t_weight : Value) (x_t_sights : Int32) (w_t_sight : Value) (w_t_count : Value) (x_t_opens : Int32) (w_t_open : Value) (w_t_behind : Value) (w_t_outs : Value) (w_t_pack : Value) (w_t_image : Value) (w_t_isKept : Value) : va_W := [(a_t, e_O 6 [.int x_t_signs, w_t_pad, .int x_t_places, w_t_page, .int x_t_begins, .int x_t_court, .int x_t_allowed, w_t_weight, .int x_t_sights, w_t_sight, w_t_count, .int x_t_opens, w_t_open, w_t_behind, w_t_outs, w_t_pack, w_t_image, w_t_isKept])]
def f_X6_court (p1 : Int32) (x_t_court : Int32) : Option (Int32 × Int32) :=
  Option.bind (f_X6_in p1 (1 : Int32) (10 : Int32)) (fun r4 =>
  if r4 = 0 then
    some ((-2 : Int32), x_t_court)
  else
    some (x_t_court, p1))
set_option maxHeartbeats 4000000 in
set_option maxRecDepth 100000 in
theorem c_X6_court (l : Launch) (E : EN) (a_t : Nat) (x_t_signs : Int32) (w_t_pad : Value) (x_t_places : Int32) (w_t_page : Value) (x_t_begins : Int32) (x_t_court : Int32) (x_t_allowed : Int32) (w_t_weight : Value) (x_t_sights : Int32) (w_t_sight : Value) (w_t_count : Value) (x_t_opens : Int32) (w_t_open : Value) (w_t_behind : Value) (w_t_outs : Value) (w_t_pack : Value) (w_t_image : Value) (w_t_isKept : Value) (p1 : Int32) (res : Int32 × Int32) (hf : f_X6_court p1 x_t_court = some res) : CtI l yX6_court cX6_court 3 .int 1 22 E [.ref a_t, .int p1] (wd_X6_court E a_t x_t_signs w_t_pad x_t_places w_t_page x_t_begins x_t_court x_t_allowed w_t_weight x_t_sights w_t_sight w_t_count x_t_opens w_t_open w_t_behind w_t_outs w_t_pack w_t_image w_t_isKept) (wd_X6_court E a_t x_t_signs w_t_pad x_t_places w_t_page x_t_begins res.2 x_t_allowed w_t_weight x_t_sights w_t_sight w_t_count x_t_opens w_t_open w_t_behind w_t_outs w_t_pack w_t_image w_t_isKept) res.1 := by
  refine CtI.of RX6 (by decide) rfl (Nat.le_of_ble_eq_true rfl) ?_
  intro p e s m below meth c A Q ls X hA hP hD hl fin
  have hx := X.1
  have hb := X.2.1
  have hl : lv_has ls 3 [(0, .ref a_t), (1, .int p1)] := hl
  have fin' : ∀ (fr0 : Int32) (fr1 : Int32), some (fr0, fr1) = some res → ∀ (pc : Nat) (ls : Array Slot) (H : Heap) (locs : List Loc), decode cX6_court pc = .ok (.ireturn, 1) → narrow .int (.int fr0) = .int fr0 → va_P E.1 vwCl (wd_X6_court E a_t x_t_signs w_t_pad x_t_places w_t_page x_t_begins fr1 x_t_allowed w_t_weight x_t_sights w_t_sight w_t_count x_t_opens w_t_open w_t_behind w_t_outs w_t_pack w_t_image w_t_isKept) H → va_D A (wd_X6_court E a_t x_t_signs w_t_pad x_t_places w_t_page x_t_begins fr1 x_t_allowed w_t_weight x_t_sights w_t_sight w_t_count x_t_opens w_t_open w_t_behind w_t_outs w_t_pack w_t_image w_t_isKept) → va_S A s.heap H locs → W p l e (rmm 1 22) s m ([.ref a_t, .int p1] : List Value).toArray below meth c H locs 0 0 Q (F0 m pc ls [.int fr0]) := by
    intro fr0 fr1 he
    cases he
    exact fin
  have hS : va_S A s.heap s.heap [] := va_S.rf
  obtain ⟨H, hH9⟩ : ∃ z, z = s.heap := ⟨_, rfl⟩
  obtain ⟨locs, hL9⟩ : ∃ z : List Loc, z = [] := ⟨_, rfl⟩
  rw [← hL9]
  rw [← hL9] at hS
  have hP : va_P E.1 vwCl (wd_X6_court E a_t x_t_signs w_t_pad x_t_places w_t_page x_t_begins x_t_court x_t_allowed w_t_weight x_t_sights w_t_sight w_t_count x_t_opens w_t_open w_t_behind w_t_outs w_t_pack w_t_image w_t_isKept) H := by rw [hH9]; exact hP
  have hS : va_S A s.heap H locs := by rw [hH9]; exact hS
  suffices hgoal : W p l e (rmm 1 22) s m ([.ref a_t, .int p1] : List Value).toArray below meth c H locs 0 0 Q (F0 m 0 ls []) by rw [hH9] at hgoal; exact hgoal
  rw [f_X6_court] at hf
  refine lv_iload_n hx hb dX6_court_0 rfl (lv_at hl 1 rfl) ?_
  refine lv_iconst (v := (1 : Int32)) hx hb dX6_court_1 (by decide) ?_
  refine lv_bipush (v := (10 : Int32)) hx hb dX6_court_2 (by decide) ?_
  obtain ⟨r4, hc4, hf⟩ := bd_some hf
  refine cS_I X hA hP hD hS hl.1 (c_X6_in l E p1 (1 : Int32) (10 : Int32) r4 hc4) 3 k_692 mw_X6_in hd_X6_in ⟨Nat.le_of_ble_eq_true rfl, Nat.le_of_ble_eq_true rfl⟩ [] [0] [0] rfl rfl (wr := [0].filterMap (fun i => (wd_X6_court E a_t x_t_signs w_t_pad x_t_places w_t_page x_t_begins x_t_court x_t_allowed w_t_weight x_t_sights w_t_sight w_t_count x_t_opens w_t_open w_t_behind w_t_outs w_t_pack w_t_image w_t_isKept)[i]?)) rfl rfl rfl rfl rfl (Nat.le_of_ble_eq_true rfl) rfl (ws' := (wd_X6_court E a_t x_t_signs w_t_pad x_t_places w_t_page x_t_begins x_t_court x_t_allowed w_t_weight x_t_sights w_t_sight w_t_count x_t_opens w_t_open w_t_behind w_t_outs w_t_pack w_t_image w_t_isKept)) rfl ⟨Nat.le_of_ble_eq_true rfl, Nat.le_of_ble_eq_true rfl⟩ dX6_court_4 (fun H locs hP hD hS => ?_)
  refine lv_if_ne (tgt := 13) hx hb dX6_court_7 (by decide) (fun c_7 => ?_) (fun c_7 => ?_)
  · have hf := if_f c_7 hf
    refine lv_aload_n hx hb dX6_court_13 rfl (lv_at hl 0 rfl) ?_
    refine gf_X6_23 X hP 0 rfl rfl dX6_court_14 ?_
    refine lv_istore_n (lv' := [(2, .int x_t_court), (0, .ref a_t), (1, .int p1)]) hx hb dX6_court_17 rfl hl (by decide) rfl (fun ls hl => ?_)
    refine lv_aload_n hx hb dX6_court_18 rfl (lv_at hl 1 rfl) ?_
    refine lv_iload_n hx hb dX6_court_19 rfl (lv_at hl 2 rfl) ?_
    refine pf_X6_23 X hP hD hS 0 rfl (Nat.le_of_ble_eq_true rfl) (ws' := (wd_X6_court E a_t x_t_signs w_t_pad x_t_places w_t_page x_t_begins p1 x_t_allowed w_t_weight x_t_sights w_t_sight w_t_count x_t_opens w_t_open w_t_behind w_t_outs w_t_pack w_t_image w_t_isKept)) rfl dX6_court_20 (fun H locs hP hD hS => ?_)
    refine lv_iload_n hx hb dX6_court_23 rfl (lv_at hl 0 rfl) ?_
    exact fin' _ _ hf 24 ls H locs dX6_court_24 rfl hP hD hS
  · have hf := if_t c_7 hf
    refine lv_bipush (v := (-2 : Int32)) hx hb dX6_court_10 (by decide) ?_
    exact fin' _ _ hf 12 ls H locs dX6_court_12 rfl hP hD hS
abbrev wd_X6_allow (E : EN) (a_t : Nat) (x_t_signs : Int32) (w_t_pad : Value) (x_t_places : Int32) (w_t_page : Value) (x_t_begins : Int32) (x_t_court : Int32) (x_t_allowed : Int32) (w_t_weight : Value) (x_t_sights : Int32) (w_t_sight : Value) (w_t_count : Value) (x_t_opens : Int32) (w_t_open : Value) (w_t_behind : Value) (w_t_outs : Value) (w_t_pack : Value) (w_t_image : Value) (w_t_isKept : Value) : va_W := [(a_t, e_O 6 [.int x_t_signs, w_t_pad, .int x_t_places, w_t_page, .int x_t_begins, .int x_t_court, .int x_t_allowed, w_t_weight, .int x_t_sights, w_t_sight, w_t_count, .int x_t_opens, w_t_open, w_t_behind, w_t_outs, w_t_pack, w_t_image, w_t_isKept])]
def f_X6_allow (p1 : Int32) (x_t_allowed : Int32) : Option (Int32 × Int32) :=
  if p1 = 0 then
    some ((-2 : Int32), x_t_allowed)
  else
    if (p1 &&& (-2047 : Int32)) = 0 then
      some (x_t_allowed, p1)
    else
      some ((-2 : Int32), x_t_allowed)
set_option maxHeartbeats 4000000 in
set_option maxRecDepth 100000 in
theorem c_X6_allow (l : Launch) (E : EN) (a_t : Nat) (x_t_signs : Int32) (w_t_pad : Value) (x_t_places : Int32) (w_t_page : Value) (x_t_begins : Int32) (x_t_court : Int32) (x_t_allowed : Int32) (w_t_weight : Value) (x_t_sights : Int32) (w_t_sight : Value) (w_t_count : Value) (x_t_opens : Int32) (w_t_open : Value) (w_t_behind : Value) (w_t_outs : Value) (w_t_pack : Value) (w_t_image : Value) (w_t_isKept : Value) (p1 : Int32) (res : Int32 × Int32) (hf : f_X6_allow p1 x_t_allowed = some res) : CtI l yX6_allow cX6_allow 3 .int 0 0 E [.ref a_t, .int p1] (wd_X6_allow E a_t x_t_signs w_t_pad x_t_places w_t_page x_t_begins x_t_court x_t_allowed w_t_weight x_t_sights w_t_sight w_t_count x_t_opens w_t_open w_t_behind w_t_outs w_t_pack w_t_image w_t_isKept) (wd_X6_allow E a_t x_t_signs w_t_pad x_t_places w_t_page x_t_begins x_t_court res.2 w_t_weight x_t_sights w_t_sight w_t_count x_t_opens w_t_open w_t_behind w_t_outs w_t_pack w_t_image w_t_isKept) res.1 := by
  refine CtI.of RX6 (by decide) rfl (Nat.le_of_ble_eq_true rfl) ?_
  intro p e s m below meth c A Q ls X hA hP hD hl fin
  have hx := X.1
  have hb := X.2.1
  have hl : lv_has ls 3 [(0, .ref a_t), (1, .int p1)] := hl
  have fin' : ∀ (fr0 : Int32) (fr1 : Int32), some (fr0, fr1) = some res → ∀ (pc : Nat) (ls : Array Slot) (H : Heap) (locs : List Loc), decode cX6_allow pc = .ok (.ireturn, 1) → narrow .int (.int fr0) = .int fr0 → va_P E.1 vwCl (wd_X6_allow E a_t x_t_signs w_t_pad x_t_places w_t_page x_t_begins x_t_court fr1 w_t_weight x_t_sights w_t_sight w_t_count x_t_opens w_t_open w_t_behind w_t_outs w_t_pack w_t_image w_t_isKept) H → va_D A (wd_X6_allow E a_t x_t_signs w_t_pad x_t_places w_t_page x_t_begins x_t_court fr1 w_t_weight x_t_sights w_t_sight w_t_count x_t_opens w_t_open w_t_behind w_t_outs w_t_pack w_t_image w_t_isKept) → va_S A s.heap H locs → W p l e (rmm 0 0) s m ([.ref a_t, .int p1] : List Value).toArray below meth c H locs 0 0 Q (F0 m pc ls [.int fr0]) := by
    intro fr0 fr1 he
    cases he
    exact fin
  have hS : va_S A s.heap s.heap [] := va_S.rf
  obtain ⟨H, hH9⟩ : ∃ z, z = s.heap := ⟨_, rfl⟩
  obtain ⟨locs, hL9⟩ : ∃ z : List Loc, z = [] := ⟨_, rfl⟩
  rw [← hL9]
  rw [← hL9] at hS
  have hP : va_P E.1 vwCl (wd_X6_allow E a_t x_t_signs w_t_pad x_t_places w_t_page x_t_begins x_t_court x_t_allowed w_t_weight x_t_sights w_t_sight w_t_count x_t_opens w_t_open w_t_behind w_t_outs w_t_pack w_t_image w_t_isKept) H := by rw [hH9]; exact hP
  have hS : va_S A s.heap H locs := by rw [hH9]; exact hS
  suffices hgoal : W p l e (rmm 0 0) s m ([.ref a_t, .int p1] : List Value).toArray below meth c H locs 0 0 Q (F0 m 0 ls []) by rw [hH9] at hgoal; exact hgoal
  rw [f_X6_allow] at hf
  refine lv_iload_n hx hb dX6_allow_0 rfl (lv_at hl 1 rfl) ?_
  refine lv_if_eq (tgt := 12) hx hb dX6_allow_1 (by decide) (fun c_1 => ?_) (fun c_1 => ?_)
  · have hf := if_t c_1 hf
    refine lv_bipush (v := (-2 : Int32)) hx hb dX6_allow_12 (by decide) ?_
    exact fin' _ _ hf 14 ls H locs dX6_allow_14 rfl hP hD hS
  · have hf := if_f c_1 hf
    refine lv_iload_n hx hb dX6_allow_4 rfl (lv_at hl 1 rfl) ?_
    refine lv_sipush (v := (-2047 : Int32)) hx hb dX6_allow_5 (by decide) ?_
    refine lv_iand hx hb dX6_allow_8 ?_
    refine lv_if_eq (tgt := 15) hx hb dX6_allow_9 (by decide) (fun c_9 => ?_) (fun c_9 => ?_)
    · have hf := if_t c_9 hf
      refine lv_aload_n hx hb dX6_allow_15 rfl (lv_at hl 0 rfl) ?_
      refine gf_X6_26 X hP 0 rfl rfl dX6_allow_16 ?_
      refine lv_istore_n (lv' := [(2, .int x_t_allowed), (0, .ref a_t), (1, .int p1)]) hx hb dX6_allow_19 rfl hl (by decide) rfl (fun ls hl => ?_)
      refine lv_aload_n hx hb dX6_allow_20 rfl (lv_at hl 1 rfl) ?_
      refine lv_iload_n hx hb dX6_allow_21 rfl (lv_at hl 2 rfl) ?_
      refine pf_X6_26 X hP hD hS 0 rfl (Nat.le_of_ble_eq_true rfl) (ws' := (wd_X6_allow E a_t x_t_signs w_t_pad x_t_places w_t_page x_t_begins x_t_court p1 w_t_weight x_t_sights w_t_sight w_t_count x_t_opens w_t_open w_t_behind w_t_outs w_t_pack w_t_image w_t_isKept)) rfl dX6_allow_22 (fun H locs hP hD hS => ?_)
      refine lv_iload_n hx hb dX6_allow_25 rfl (lv_at hl 0 rfl) ?_
      exact fin' _ _ hf 26 ls H locs dX6_allow_26 rfl hP hD hS
    · have hf := if_f c_9 hf
      refine lv_bipush (v := (-2 : Int32)) hx hb dX6_allow_12 (by decide) ?_
      exact fin' _ _ hf 14 ls H locs dX6_allow_14 rfl hP hD hS
abbrev wd_X6_allWeights (E : EN) (a_t : Nat) (a_t_weight : Nat) (x_t_signs : Int32) (w_t_pad : Value) (x_t_places : Int32) (w_t_page : Value) (x_t_begins : Int32) (x_t_court : Int32) (x_t_allowed : Int32) (x_t_sights : Int32) (w_t_sight : Value) (w_t_count : Value) (x_t_opens : Int32) (w_t_open : Value) (w_t_behind : Value) (w_t_outs : Value) (w_t_pack : Value) (w_t_image : Value) (w_t_isKept : Value) (x_t_weight : Nat → Int32) : va_W := [(a_t, e_O 6 [.int x_t_signs, w_t_pad, .int x_t_places, w_t_page, .int x_t_begins, .int x_t_court, .int x_t_allowed, .ref a_t_weight, .int x_t_sights, w_t_sight, w_t_count, .int x_t_opens, w_t_open, w_t_behind, w_t_outs, w_t_pack, w_t_image, w_t_isKept]), (a_t_weight, e_I E 11 x_t_weight)]
def f_X6_allWeights_4 (x_t_weight : Nat → Int32)  : Nat → Int32 → Int32 → Option (Int32)
  | 0, _, _ => none
  | n_ + 1, v1, v2 =>
    if (10 : Int32) < v2 then
      some v1
    else
      ck (inB v2 11) (
      f_X6_allWeights_4 x_t_weight n_ (v1 + (x_t_weight (ix v2))) (v2 + (1 : Int32)))
def f_X6_allWeights (x_t_weight : Nat → Int32) : Option (Int32) :=
  f_X6_allWeights_4 x_t_weight FU (0 : Int32) (1 : Int32)
set_option maxHeartbeats 4000000 in
set_option maxRecDepth 100000 in
theorem c_X6_allWeights (l : Launch) (E : EN) (a_t a_t_weight : Nat) (x_t_signs : Int32) (w_t_pad : Value) (x_t_places : Int32) (w_t_page : Value) (x_t_begins : Int32) (x_t_court : Int32) (x_t_allowed : Int32) (x_t_sights : Int32) (w_t_sight : Value) (w_t_count : Value) (x_t_opens : Int32) (w_t_open : Value) (w_t_behind : Value) (w_t_outs : Value) (w_t_pack : Value) (w_t_image : Value) (w_t_isKept : Value) (x_t_weight : Nat → Int32)  (res : Int32) (hf : f_X6_allWeights x_t_weight = some res) : CtI l yX6_allWeights cX6_allWeights 3 .int 0 0 E [.ref a_t] (wd_X6_allWeights E a_t a_t_weight x_t_signs w_t_pad x_t_places w_t_page x_t_begins x_t_court x_t_allowed x_t_sights w_t_sight w_t_count x_t_opens w_t_open w_t_behind w_t_outs w_t_pack w_t_image w_t_isKept x_t_weight) (wd_X6_allWeights E a_t a_t_weight x_t_signs w_t_pad x_t_places w_t_page x_t_begins x_t_court x_t_allowed x_t_sights w_t_sight w_t_count x_t_opens w_t_open w_t_behind w_t_outs w_t_pack w_t_image w_t_isKept x_t_weight) res := by
  refine CtI.of RX6 (by decide) rfl (Nat.le_of_ble_eq_true rfl) ?_
  intro p e s m below meth c A Q ls X hA hP hD hl fin
  have hx := X.1
  have hb := X.2.1
  have hl : lv_has ls 3 [(0, .ref a_t)] := hl
  have fin' : ∀ (fr0 : Int32), some fr0 = some res → ∀ (pc : Nat) (ls : Array Slot) (H : Heap) (locs : List Loc), decode cX6_allWeights pc = .ok (.ireturn, 1) → narrow .int (.int fr0) = .int fr0 → va_P E.1 vwCl (wd_X6_allWeights E a_t a_t_weight x_t_signs w_t_pad x_t_places w_t_page x_t_begins x_t_court x_t_allowed x_t_sights w_t_sight w_t_count x_t_opens w_t_open w_t_behind w_t_outs w_t_pack w_t_image w_t_isKept x_t_weight) H → va_D A (wd_X6_allWeights E a_t a_t_weight x_t_signs w_t_pad x_t_places w_t_page x_t_begins x_t_court x_t_allowed x_t_sights w_t_sight w_t_count x_t_opens w_t_open w_t_behind w_t_outs w_t_pack w_t_image w_t_isKept x_t_weight) → va_S A s.heap H locs → W p l e (rmm 0 0) s m ([.ref a_t] : List Value).toArray below meth c H locs 0 0 Q (F0 m pc ls [.int fr0]) := by
    intro fr0 he
    cases he
    exact fin
  have L4 : ∀ (n4 : Nat) (v1 : Int32) (v2 : Int32), f_X6_allWeights_4 x_t_weight n4 v1 v2 = some res → ∀ (H : Heap) (locs : List Loc) (ls : Array Slot), va_P E.1 vwCl (wd_X6_allWeights E a_t a_t_weight x_t_signs w_t_pad x_t_places w_t_page x_t_begins x_t_court x_t_allowed x_t_sights w_t_sight w_t_count x_t_opens w_t_open w_t_behind w_t_outs w_t_pack w_t_image w_t_isKept x_t_weight) H → va_D A (wd_X6_allWeights E a_t a_t_weight x_t_signs w_t_pad x_t_places w_t_page x_t_begins x_t_court x_t_allowed x_t_sights w_t_sight w_t_count x_t_opens w_t_open w_t_behind w_t_outs w_t_pack w_t_image w_t_isKept x_t_weight) → va_S A s.heap H locs → lv_has ls 3 [(0, .ref a_t), (1, .int v1), (2, .int v2)] → W p l e (rmm 0 0) s m ([.ref a_t] : List Value).toArray below meth c H locs 0 0 Q (F0 m 4 ls []) := by
    intro n4
    induction n4 with
    | zero => intro v1 v2 hf; rw [f_X6_allWeights_4] at hf; cases hf
    | succ n4 ih4 =>
      intro v1 v2 hf H locs ls hP hD hS hl
      rw [f_X6_allWeights_4] at hf
      refine lv_iload_n hx hb dX6_allWeights_4 rfl (lv_at hl 2 rfl) ?_
      refine lv_bipush (v := (10 : Int32)) hx hb dX6_allWeights_5 (by decide) ?_
      refine lv_icmp_gt (tgt := 25) hx hb dX6_allWeights_7 (by decide) (fun c_7 => ?_) (fun c_7 => ?_)
      · have hf := if_t c_7 hf
        refine lv_iload_n hx hb dX6_allWeights_25 rfl (lv_at hl 1 rfl) ?_
        exact fin' _ hf 26 ls H locs dX6_allWeights_26 rfl hP hD hS
      · have hf := if_f c_7 hf
        refine lv_iload_n hx hb dX6_allWeights_10 rfl (lv_at hl 1 rfl) ?_
        refine lv_aload_n hx hb dX6_allWeights_11 rfl (lv_at hl 0 rfl) ?_
        refine gf_X6_29 X hP 0 rfl rfl dX6_allWeights_12 ?_
        refine lv_iload_n hx hb dX6_allWeights_15 rfl (lv_at hl 2 rfl) ?_
        obtain ⟨hi16, hf⟩ := ck_some hf
        refine r_iald X hP 1 rfl hi16 dX6_allWeights_16 ?_
        refine lv_iadd hx hb dX6_allWeights_17 ?_
        refine lv_istore_n (lv' := [(1, .int (v1 + (x_t_weight (ix v2)))), (0, .ref a_t), (2, .int v2)]) hx hb dX6_allWeights_18 rfl hl (by decide) rfl (fun ls hl => ?_)
        refine lv_iinc (v := (v2 + (1 : Int32))) (lv' := [(2, .int (v2 + (1 : Int32))), (1, .int (v1 + (x_t_weight (ix v2)))), (0, .ref a_t)]) hx hb dX6_allWeights_19 hl (k := 2) rfl rfl (by decide) rfl (fun ls hl => ?_)
        refine lv_goto (tgt := 4) hx hb dX6_allWeights_22 (by decide) ?_
        exact ih4 (v1 + (x_t_weight (ix v2))) (v2 + (1 : Int32)) hf H locs ls hP hD hS (lv_sub hl [2, 1, 0] rfl)
  have hS : va_S A s.heap s.heap [] := va_S.rf
  obtain ⟨H, hH9⟩ : ∃ z, z = s.heap := ⟨_, rfl⟩
  obtain ⟨locs, hL9⟩ : ∃ z : List Loc, z = [] := ⟨_, rfl⟩
  rw [← hL9]
  rw [← hL9] at hS
  have hP : va_P E.1 vwCl (wd_X6_allWeights E a_t a_t_weight x_t_signs w_t_pad x_t_places w_t_page x_t_begins x_t_court x_t_allowed x_t_sights w_t_sight w_t_count x_t_opens w_t_open w_t_behind w_t_outs w_t_pack w_t_image w_t_isKept x_t_weight) H := by rw [hH9]; exact hP
  have hS : va_S A s.heap H locs := by rw [hH9]; exact hS
  suffices hgoal : W p l e (rmm 0 0) s m ([.ref a_t] : List Value).toArray below meth c H locs 0 0 Q (F0 m 0 ls []) by rw [hH9] at hgoal; exact hgoal
  rw [f_X6_allWeights] at hf
  refine lv_iconst (v := (0 : Int32)) hx hb dX6_allWeights_0 (by decide) ?_
  refine lv_istore_n (lv' := [(1, .int (0 : Int32)), (0, .ref a_t)]) hx hb dX6_allWeights_1 rfl hl (by decide) rfl (fun ls hl => ?_)
  refine lv_iconst (v := (1 : Int32)) hx hb dX6_allWeights_2 (by decide) ?_
  refine lv_istore_n (lv' := [(2, .int (1 : Int32)), (1, .int (0 : Int32)), (0, .ref a_t)]) hx hb dX6_allWeights_3 rfl hl (by decide) rfl (fun ls hl => ?_)
  exact L4 FU (0 : Int32) (1 : Int32) hf H locs ls hP hD hS (lv_sub hl [2, 1, 0] rfl)
abbrev wd_X6_weight (E : EN) (a_t : Nat) (a_t_weight : Nat) (x_t_signs : Int32) (w_t_pad : Value) (x_t_places : Int32) (w_t_page : Value) (x_t_begins : Int32) (x_t_court : Int32) (x_t_allowed : Int32) (x_t_sights : Int32) (w_t_sight : Value) (w_t_count : Value) (x_t_opens : Int32) (w_t_open : Value) (w_t_behind : Value) (w_t_outs : Value) (w_t_pack : Value) (w_t_image : Value) (w_t_isKept : Value) (x_t_weight : Nat → Int32) : va_W := [(a_t, e_O 6 [.int x_t_signs, w_t_pad, .int x_t_places, w_t_page, .int x_t_begins, .int x_t_court, .int x_t_allowed, .ref a_t_weight, .int x_t_sights, w_t_sight, w_t_count, .int x_t_opens, w_t_open, w_t_behind, w_t_outs, w_t_pack, w_t_image, w_t_isKept]), (a_t_weight, e_I E 11 x_t_weight)]
def f_X6_weight (p1 : Int32) (p2 : Int32) (x_t_weight : Nat → Int32) : Option (Int32 × (Nat → Int32)) :=
  Option.bind (f_X6_in p1 (1 : Int32) (10 : Int32)) (fun r4 =>
  if r4 = 0 then
    some ((-1 : Int32), x_t_weight)
  else
    Option.bind (f_X6_in p2 (0 : Int32) (9 : Int32)) (fun r16 =>
    if r16 = 0 then
      some ((-2 : Int32), x_t_weight)
    else
      Option.bind (f_X6_allWeights x_t_weight) (fun r23 =>
      ck (inB p1 11) (
      Option.bind (f_X6_in ((r23 - (x_t_weight (ix p1))) + p2) (1 : Int32) (12 : Int32)) (fun r38 =>
      if r38 = 0 then
        some ((-2 : Int32), x_t_weight)
      else
        some ((x_t_weight (ix p1)), (upd x_t_weight (ix p1) p2)))))))
set_option maxHeartbeats 4000000 in
set_option maxRecDepth 100000 in
theorem c_X6_weight (l : Launch) (E : EN) (a_t a_t_weight : Nat) (x_t_signs : Int32) (w_t_pad : Value) (x_t_places : Int32) (w_t_page : Value) (x_t_begins : Int32) (x_t_court : Int32) (x_t_allowed : Int32) (x_t_sights : Int32) (w_t_sight : Value) (w_t_count : Value) (x_t_opens : Int32) (w_t_open : Value) (w_t_behind : Value) (w_t_outs : Value) (w_t_pack : Value) (w_t_image : Value) (w_t_isKept : Value) (x_t_weight : Nat → Int32) (p1 : Int32) (p2 : Int32) (res : Int32 × (Nat → Int32)) (hf : f_X6_weight p1 p2 x_t_weight = some res) : CtI l yX6_weight cX6_weight 4 .int 1 22 E [.ref a_t, .int p1, .int p2] (wd_X6_weight E a_t a_t_weight x_t_signs w_t_pad x_t_places w_t_page x_t_begins x_t_court x_t_allowed x_t_sights w_t_sight w_t_count x_t_opens w_t_open w_t_behind w_t_outs w_t_pack w_t_image w_t_isKept x_t_weight) (wd_X6_weight E a_t a_t_weight x_t_signs w_t_pad x_t_places w_t_page x_t_begins x_t_court x_t_allowed x_t_sights w_t_sight w_t_count x_t_opens w_t_open w_t_behind w_t_outs w_t_pack w_t_image w_t_isKept res.2) res.1 := by
  refine CtI.of RX6 (by decide) rfl (Nat.le_of_ble_eq_true rfl) ?_
  intro p e s m below meth c A Q ls X hA hP hD hl fin
  have hx := X.1
  have hb := X.2.1
  have hl : lv_has ls 4 [(0, .ref a_t), (1, .int p1), (2, .int p2)] := hl
  have fin' : ∀ (fr0 : Int32) (fr1 : (Nat → Int32)), some (fr0, fr1) = some res → ∀ (pc : Nat) (ls : Array Slot) (H : Heap) (locs : List Loc), decode cX6_weight pc = .ok (.ireturn, 1) → narrow .int (.int fr0) = .int fr0 → va_P E.1 vwCl (wd_X6_weight E a_t a_t_weight x_t_signs w_t_pad x_t_places w_t_page x_t_begins x_t_court x_t_allowed x_t_sights w_t_sight w_t_count x_t_opens w_t_open w_t_behind w_t_outs w_t_pack w_t_image w_t_isKept fr1) H → va_D A (wd_X6_weight E a_t a_t_weight x_t_signs w_t_pad x_t_places w_t_page x_t_begins x_t_court x_t_allowed x_t_sights w_t_sight w_t_count x_t_opens w_t_open w_t_behind w_t_outs w_t_pack w_t_image w_t_isKept fr1) → va_S A s.heap H locs → W p l e (rmm 1 22) s m ([.ref a_t, .int p1, .int p2] : List Value).toArray below meth c H locs 0 0 Q (F0 m pc ls [.int fr0]) := by
    intro fr0 fr1 he
    cases he
    exact fin
  have hS : va_S A s.heap s.heap [] := va_S.rf
  obtain ⟨H, hH9⟩ : ∃ z, z = s.heap := ⟨_, rfl⟩
  obtain ⟨locs, hL9⟩ : ∃ z : List Loc, z = [] := ⟨_, rfl⟩
  rw [← hL9]
  rw [← hL9] at hS
  have hP : va_P E.1 vwCl (wd_X6_weight E a_t a_t_weight x_t_signs w_t_pad x_t_places w_t_page x_t_begins x_t_court x_t_allowed x_t_sights w_t_sight w_t_count x_t_opens w_t_open w_t_behind w_t_outs w_t_pack w_t_image w_t_isKept x_t_weight) H := by rw [hH9]; exact hP
  have hS : va_S A s.heap H locs := by rw [hH9]; exact hS
  suffices hgoal : W p l e (rmm 1 22) s m ([.ref a_t, .int p1, .int p2] : List Value).toArray below meth c H locs 0 0 Q (F0 m 0 ls []) by rw [hH9] at hgoal; exact hgoal
  rw [f_X6_weight] at hf
  refine lv_iload_n hx hb dX6_weight_0 rfl (lv_at hl 1 rfl) ?_
  refine lv_iconst (v := (1 : Int32)) hx hb dX6_weight_1 (by decide) ?_
  refine lv_bipush (v := (10 : Int32)) hx hb dX6_weight_2 (by decide) ?_
  obtain ⟨r4, hc4, hf⟩ := bd_some hf
  refine cS_I X hA hP hD hS hl.1 (c_X6_in l E p1 (1 : Int32) (10 : Int32) r4 hc4) 3 k_692 mw_X6_in hd_X6_in ⟨Nat.le_of_ble_eq_true rfl, Nat.le_of_ble_eq_true rfl⟩ [] [0, 1] [0, 1] rfl rfl (wr := [0, 1].filterMap (fun i => (wd_X6_weight E a_t a_t_weight x_t_signs w_t_pad x_t_places w_t_page x_t_begins x_t_court x_t_allowed x_t_sights w_t_sight w_t_count x_t_opens w_t_open w_t_behind w_t_outs w_t_pack w_t_image w_t_isKept x_t_weight)[i]?)) rfl rfl rfl rfl rfl (Nat.le_of_ble_eq_true rfl) rfl (ws' := (wd_X6_weight E a_t a_t_weight x_t_signs w_t_pad x_t_places w_t_page x_t_begins x_t_court x_t_allowed x_t_sights w_t_sight w_t_count x_t_opens w_t_open w_t_behind w_t_outs w_t_pack w_t_image w_t_isKept x_t_weight)) rfl ⟨Nat.le_of_ble_eq_true rfl, Nat.le_of_ble_eq_true rfl⟩ dX6_weight_4 (fun H locs hP hD hS => ?_)
  refine lv_if_ne (tgt := 12) hx hb dX6_weight_7 (by decide) (fun c_7 => ?_) (fun c_7 => ?_)
  · have hf := if_f c_7 hf
    refine lv_iload_n hx hb dX6_weight_12 rfl (lv_at hl 2 rfl) ?_
    refine lv_iconst (v := (0 : Int32)) hx hb dX6_weight_13 (by decide) ?_
    refine lv_bipush (v := (9 : Int32)) hx hb dX6_weight_14 (by decide) ?_
    obtain ⟨r16, hc16, hf⟩ := bd_some hf
    refine cS_I X hA hP hD hS hl.1 (c_X6_in l E p2 (0 : Int32) (9 : Int32) r16 hc16) 3 k_692 mw_X6_in hd_X6_in ⟨Nat.le_of_ble_eq_true rfl, Nat.le_of_ble_eq_true rfl⟩ [] [0, 1] [0, 1] rfl rfl (wr := [0, 1].filterMap (fun i => (wd_X6_weight E a_t a_t_weight x_t_signs w_t_pad x_t_places w_t_page x_t_begins x_t_court x_t_allowed x_t_sights w_t_sight w_t_count x_t_opens w_t_open w_t_behind w_t_outs w_t_pack w_t_image w_t_isKept x_t_weight)[i]?)) rfl rfl rfl rfl rfl (Nat.le_of_ble_eq_true rfl) rfl (ws' := (wd_X6_weight E a_t a_t_weight x_t_signs w_t_pad x_t_places w_t_page x_t_begins x_t_court x_t_allowed x_t_sights w_t_sight w_t_count x_t_opens w_t_open w_t_behind w_t_outs w_t_pack w_t_image w_t_isKept x_t_weight)) rfl ⟨Nat.le_of_ble_eq_true rfl, Nat.le_of_ble_eq_true rfl⟩ dX6_weight_16 (fun H locs hP hD hS => ?_)
    refine lv_if_eq (tgt := 44) hx hb dX6_weight_19 (by decide) (fun c_19 => ?_) (fun c_19 => ?_)
    · have hf := if_t c_19 hf
      refine lv_bipush (v := (-2 : Int32)) hx hb dX6_weight_44 (by decide) ?_
      exact fin' _ _ hf 46 ls H locs dX6_weight_46 rfl hP hD hS
    · have hf := if_f c_19 hf
      refine lv_aload_n hx hb dX6_weight_22 rfl (lv_at hl 0 rfl) ?_
      obtain ⟨r23, hc23, hf⟩ := bd_some hf
      refine cV_I X hA hP hD hS hl.1 (c_X6_allWeights l E a_t a_t_weight x_t_signs w_t_pad x_t_places w_t_page x_t_begins x_t_court x_t_allowed x_t_sights w_t_sight w_t_count x_t_opens w_t_open w_t_behind w_t_outs w_t_pack w_t_image w_t_isKept x_t_weight r23 hc23) 0 k_730 mw_X6_allWeights hd_X6_allWeights ⟨Nat.le_of_ble_eq_true rfl, Nat.le_of_ble_eq_true rfl⟩ [0, 1] [] [0, 1] rfl rfl (wr := []) rfl rfl rfl 6 0 rfl rfl rfl rfl rfl (Nat.le_of_ble_eq_true rfl) rfl (ws' := (wd_X6_weight E a_t a_t_weight x_t_signs w_t_pad x_t_places w_t_page x_t_begins x_t_court x_t_allowed x_t_sights w_t_sight w_t_count x_t_opens w_t_open w_t_behind w_t_outs w_t_pack w_t_image w_t_isKept x_t_weight)) rfl ⟨Nat.le_of_ble_eq_true rfl, Nat.le_of_ble_eq_true rfl⟩ dX6_weight_23 (fun H locs hP hD hS => ?_)
      refine lv_aload_n hx hb dX6_weight_26 rfl (lv_at hl 0 rfl) ?_
      refine gf_X6_29 X hP 0 rfl rfl dX6_weight_27 ?_
      refine lv_iload_n hx hb dX6_weight_30 rfl (lv_at hl 1 rfl) ?_
      obtain ⟨hi31, hf⟩ := ck_some hf
      refine r_iald X hP 1 rfl hi31 dX6_weight_31 ?_
      refine lv_isub hx hb dX6_weight_32 ?_
      refine lv_iload_n hx hb dX6_weight_33 rfl (lv_at hl 2 rfl) ?_
      refine lv_iadd hx hb dX6_weight_34 ?_
      refine lv_iconst (v := (1 : Int32)) hx hb dX6_weight_35 (by decide) ?_
      refine lv_bipush (v := (12 : Int32)) hx hb dX6_weight_36 (by decide) ?_
      obtain ⟨r38, hc38, hf⟩ := bd_some hf
      refine cS_I X hA hP hD hS hl.1 (c_X6_in l E ((r23 - (x_t_weight (ix p1))) + p2) (1 : Int32) (12 : Int32) r38 hc38) 3 k_692 mw_X6_in hd_X6_in ⟨Nat.le_of_ble_eq_true rfl, Nat.le_of_ble_eq_true rfl⟩ [] [0, 1] [0, 1] rfl rfl (wr := [0, 1].filterMap (fun i => (wd_X6_weight E a_t a_t_weight x_t_signs w_t_pad x_t_places w_t_page x_t_begins x_t_court x_t_allowed x_t_sights w_t_sight w_t_count x_t_opens w_t_open w_t_behind w_t_outs w_t_pack w_t_image w_t_isKept x_t_weight)[i]?)) rfl rfl rfl rfl rfl (Nat.le_of_ble_eq_true rfl) rfl (ws' := (wd_X6_weight E a_t a_t_weight x_t_signs w_t_pad x_t_places w_t_page x_t_begins x_t_court x_t_allowed x_t_sights w_t_sight w_t_count x_t_opens w_t_open w_t_behind w_t_outs w_t_pack w_t_image w_t_isKept x_t_weight)) rfl ⟨Nat.le_of_ble_eq_true rfl, Nat.le_of_ble_eq_true rfl⟩ dX6_weight_38 (fun H locs hP hD hS => ?_)
      refine lv_if_ne (tgt := 47) hx hb dX6_weight_41 (by decide) (fun c_41 => ?_) (fun c_41 => ?_)
      · have hf := if_f c_41 hf
        refine lv_aload_n hx hb dX6_weight_47 rfl (lv_at hl 0 rfl) ?_
        refine gf_X6_29 X hP 0 rfl rfl dX6_weight_48 ?_
        refine lv_iload_n hx hb dX6_weight_51 rfl (lv_at hl 1 rfl) ?_
        refine r_iald X hP 1 rfl hi31 dX6_weight_52 ?_
        refine lv_istore_n (lv' := [(3, .int (x_t_weight (ix p1))), (0, .ref a_t), (1, .int p1), (2, .int p2)]) hx hb dX6_weight_53 rfl hl (by decide) rfl (fun ls hl => ?_)
        refine lv_aload_n hx hb dX6_weight_54 rfl (lv_at hl 1 rfl) ?_
        refine gf_X6_29 X hP 0 rfl rfl dX6_weight_55 ?_
        refine lv_iload_n hx hb dX6_weight_58 rfl (lv_at hl 2 rfl) ?_
        refine lv_iload_n hx hb dX6_weight_59 rfl (lv_at hl 3 rfl) ?_
        refine r_iast X hP hD hS 1 rfl hi31 (ws' := (wd_X6_weight E a_t a_t_weight x_t_signs w_t_pad x_t_places w_t_page x_t_begins x_t_court x_t_allowed x_t_sights w_t_sight w_t_count x_t_opens w_t_open w_t_behind w_t_outs w_t_pack w_t_image w_t_isKept (upd x_t_weight (ix p1) p2))) rfl dX6_weight_60 (fun H locs hP hD hS => ?_)
        refine lv_iload_n hx hb dX6_weight_61 rfl (lv_at hl 0 rfl) ?_
        exact fin' _ _ hf 62 ls H locs dX6_weight_62 rfl hP hD hS
      · have hf := if_t c_41 hf
        refine lv_bipush (v := (-2 : Int32)) hx hb dX6_weight_44 (by decide) ?_
        exact fin' _ _ hf 46 ls H locs dX6_weight_46 rfl hP hD hS
  · have hf := if_t c_7 hf
    refine lv_iconst (v := (-1 : Int32)) hx hb dX6_weight_10 (by decide) ?_
    exact fin' _ _ hf 11 ls H locs dX6_weight_11 rfl hP hD hS
abbrev wd_X6_isPlace (E : EN) (a_t : Nat) (x_t_signs : Int32) (w_t_pad : Value) (x_t_places : Int32) (w_t_page : Value) (x_t_begins : Int32) (x_t_court : Int32) (x_t_allowed : Int32) (w_t_weight : Value) (x_t_sights : Int32) (w_t_sight : Value) (w_t_count : Value) (x_t_opens : Int32) (w_t_open : Value) (w_t_behind : Value) (w_t_outs : Value) (w_t_pack : Value) (w_t_image : Value) (w_t_isKept : Value) : va_W := [(a_t, e_O 6 [.int x_t_signs, w_t_pad, .int x_t_places, w_t_page, .int x_t_begins, .int x_t_court, .int x_t_allowed, w_t_weight, .int x_t_sights, w_t_sight, w_t_count, .int x_t_opens, w_t_open, w_t_behind, w_t_outs, w_t_pack, w_t_image, w_t_isKept])]
def f_X6_isPlace (p1 : Int32) (x_t_places : Int32) : Option (Int32) :=
  Option.bind (f_X6_in p1 (0 : Int32) (x_t_places - (1 : Int32))) (fun r8 =>
  ck (isB r8) (
  some r8))
set_option maxHeartbeats 4000000 in
set_option maxRecDepth 100000 in
theorem c_X6_isPlace (l : Launch) (E : EN) (a_t : Nat) (x_t_signs : Int32) (w_t_pad : Value) (x_t_places : Int32) (w_t_page : Value) (x_t_begins : Int32) (x_t_court : Int32) (x_t_allowed : Int32) (w_t_weight : Value) (x_t_sights : Int32) (w_t_sight : Value) (w_t_count : Value) (x_t_opens : Int32) (w_t_open : Value) (w_t_behind : Value) (w_t_outs : Value) (w_t_pack : Value) (w_t_image : Value) (w_t_isKept : Value) (p1 : Int32) (res : Int32) (hf : f_X6_isPlace p1 x_t_places = some res) : CtI l yX6_isPlace cX6_isPlace 2 .boolean 1 22 E [.ref a_t, .int p1] (wd_X6_isPlace E a_t x_t_signs w_t_pad x_t_places w_t_page x_t_begins x_t_court x_t_allowed w_t_weight x_t_sights w_t_sight w_t_count x_t_opens w_t_open w_t_behind w_t_outs w_t_pack w_t_image w_t_isKept) (wd_X6_isPlace E a_t x_t_signs w_t_pad x_t_places w_t_page x_t_begins x_t_court x_t_allowed w_t_weight x_t_sights w_t_sight w_t_count x_t_opens w_t_open w_t_behind w_t_outs w_t_pack w_t_image w_t_isKept) res := by
  refine CtI.of RX6 (by decide) rfl (Nat.le_of_ble_eq_true rfl) ?_
  intro p e s m below meth c A Q ls X hA hP hD hl fin
  have hx := X.1
  have hb := X.2.1
  have hl : lv_has ls 2 [(0, .ref a_t), (1, .int p1)] := hl
  have fin' : ∀ (fr0 : Int32), some fr0 = some res → ∀ (pc : Nat) (ls : Array Slot) (H : Heap) (locs : List Loc), decode cX6_isPlace pc = .ok (.ireturn, 1) → narrow .boolean (.int fr0) = .int fr0 → va_P E.1 vwCl (wd_X6_isPlace E a_t x_t_signs w_t_pad x_t_places w_t_page x_t_begins x_t_court x_t_allowed w_t_weight x_t_sights w_t_sight w_t_count x_t_opens w_t_open w_t_behind w_t_outs w_t_pack w_t_image w_t_isKept) H → va_D A (wd_X6_isPlace E a_t x_t_signs w_t_pad x_t_places w_t_page x_t_begins x_t_court x_t_allowed w_t_weight x_t_sights w_t_sight w_t_count x_t_opens w_t_open w_t_behind w_t_outs w_t_pack w_t_image w_t_isKept) → va_S A s.heap H locs → W p l e (rmm 1 22) s m ([.ref a_t, .int p1] : List Value).toArray below meth c H locs 0 0 Q (F0 m pc ls [.int fr0]) := by
    intro fr0 he
    cases he
    exact fin
  have hS : va_S A s.heap s.heap [] := va_S.rf
  obtain ⟨H, hH9⟩ : ∃ z, z = s.heap := ⟨_, rfl⟩
  obtain ⟨locs, hL9⟩ : ∃ z : List Loc, z = [] := ⟨_, rfl⟩
  rw [← hL9]
  rw [← hL9] at hS
  have hP : va_P E.1 vwCl (wd_X6_isPlace E a_t x_t_signs w_t_pad x_t_places w_t_page x_t_begins x_t_court x_t_allowed w_t_weight x_t_sights w_t_sight w_t_count x_t_opens w_t_open w_t_behind w_t_outs w_t_pack w_t_image w_t_isKept) H := by rw [hH9]; exact hP
  have hS : va_S A s.heap H locs := by rw [hH9]; exact hS
  suffices hgoal : W p l e (rmm 1 22) s m ([.ref a_t, .int p1] : List Value).toArray below meth c H locs 0 0 Q (F0 m 0 ls []) by rw [hH9] at hgoal; exact hgoal
  rw [f_X6_isPlace] at hf
  refine lv_iload_n hx hb dX6_isPlace_0 rfl (lv_at hl 1 rfl) ?_
  refine lv_iconst (v := (0 : Int32)) hx hb dX6_isPlace_1 (by decide) ?_
  refine lv_aload_n hx hb dX6_isPlace_2 rfl (lv_at hl 0 rfl) ?_
  refine gf_X6_13 X hP 0 rfl rfl dX6_isPlace_3 ?_
  refine lv_iconst (v := (1 : Int32)) hx hb dX6_isPlace_6 (by decide) ?_
  refine lv_isub hx hb dX6_isPlace_7 ?_
  obtain ⟨r8, hc8, hf⟩ := bd_some hf
  refine cS_I X hA hP hD hS hl.1 (c_X6_in l E p1 (0 : Int32) (x_t_places - (1 : Int32)) r8 hc8) 3 k_692 mw_X6_in hd_X6_in ⟨Nat.le_of_ble_eq_true rfl, Nat.le_of_ble_eq_true rfl⟩ [] [0] [0] rfl rfl (wr := [0].filterMap (fun i => (wd_X6_isPlace E a_t x_t_signs w_t_pad x_t_places w_t_page x_t_begins x_t_court x_t_allowed w_t_weight x_t_sights w_t_sight w_t_count x_t_opens w_t_open w_t_behind w_t_outs w_t_pack w_t_image w_t_isKept)[i]?)) rfl rfl rfl rfl rfl (Nat.le_of_ble_eq_true rfl) rfl (ws' := (wd_X6_isPlace E a_t x_t_signs w_t_pad x_t_places w_t_page x_t_begins x_t_court x_t_allowed w_t_weight x_t_sights w_t_sight w_t_count x_t_opens w_t_open w_t_behind w_t_outs w_t_pack w_t_image w_t_isKept)) rfl ⟨Nat.le_of_ble_eq_true rfl, Nat.le_of_ble_eq_true rfl⟩ dX6_isPlace_8 (fun H locs hP hD hS => ?_)
  obtain ⟨hz11, hf⟩ := ck_some hf
  exact fin' _ hf 11 ls H locs dX6_isPlace_11 (isB_nar hz11) hP hD hS
abbrev wd_X6_countOf (E : EN)   : va_W := []
def f_X6_countOf (p1 : Int32) (p2 : Int32) : Option (Int32) :=
  Option.bind (f_X6_in p1 (49 : Int32) (57 : Int32)) (fun r5 =>
  if r5 = 0 then
    if p1 = (84 : Int32) then
      some (10 : Int32)
    else
      if p1 = (65 : Int32) then
        some (1 : Int32)
      else
        Option.bind (f_X6_isCourt p1) (fun r40 =>
        if r40 = 0 then
          some (0 : Int32)
        else
          some p2)
  else
    some (p1 - (48 : Int32)))
set_option maxHeartbeats 4000000 in
set_option maxRecDepth 100000 in
theorem c_X6_countOf (l : Launch) (E : EN)  (p1 : Int32) (p2 : Int32) (res : Int32) (hf : f_X6_countOf p1 p2 = some res) : CtI l yX6_countOf cX6_countOf 2 .int 1 22 E [.int p1, .int p2] (wd_X6_countOf E) (wd_X6_countOf E) res := by
  refine CtI.of RX6 (by decide) rfl (Nat.le_of_ble_eq_true rfl) ?_
  intro p e s m below meth c A Q ls X hA hP hD hl fin
  have hx := X.1
  have hb := X.2.1
  have hl : lv_has ls 2 [(0, .int p1), (1, .int p2)] := hl
  have fin' : ∀ (fr0 : Int32), some fr0 = some res → ∀ (pc : Nat) (ls : Array Slot) (H : Heap) (locs : List Loc), decode cX6_countOf pc = .ok (.ireturn, 1) → narrow .int (.int fr0) = .int fr0 → va_P E.1 vwCl (wd_X6_countOf E) H → va_D A (wd_X6_countOf E) → va_S A s.heap H locs → W p l e (rmm 1 22) s m ([.int p1, .int p2] : List Value).toArray below meth c H locs 0 0 Q (F0 m pc ls [.int fr0]) := by
    intro fr0 he
    cases he
    exact fin
  have hS : va_S A s.heap s.heap [] := va_S.rf
  obtain ⟨H, hH9⟩ : ∃ z, z = s.heap := ⟨_, rfl⟩
  obtain ⟨locs, hL9⟩ : ∃ z : List Loc, z = [] := ⟨_, rfl⟩
  rw [← hL9]
  rw [← hL9] at hS
  have hP : va_P E.1 vwCl (wd_X6_countOf E) H := by rw [hH9]; exact hP
  have hS : va_S A s.heap H locs := by rw [hH9]; exact hS
  suffices hgoal : W p l e (rmm 1 22) s m ([.int p1, .int p2] : List Value).toArray below meth c H locs 0 0 Q (F0 m 0 ls []) by rw [hH9] at hgoal; exact hgoal
  rw [f_X6_countOf] at hf
  refine lv_iload_n hx hb dX6_countOf_0 rfl (lv_at hl 0 rfl) ?_
  refine lv_bipush (v := (49 : Int32)) hx hb dX6_countOf_1 (by decide) ?_
  refine lv_bipush (v := (57 : Int32)) hx hb dX6_countOf_3 (by decide) ?_
  obtain ⟨r5, hc5, hf⟩ := bd_some hf
  refine cS_I X hA hP hD hS hl.1 (c_X6_in l E p1 (49 : Int32) (57 : Int32) r5 hc5) 3 k_692 mw_X6_in hd_X6_in ⟨Nat.le_of_ble_eq_true rfl, Nat.le_of_ble_eq_true rfl⟩ [] [] [] rfl rfl (wr := []) rfl rfl rfl rfl rfl (Nat.le_of_ble_eq_true rfl) rfl (ws' := (wd_X6_countOf E)) rfl ⟨Nat.le_of_ble_eq_true rfl, Nat.le_of_ble_eq_true rfl⟩ dX6_countOf_5 (fun H locs hP hD hS => ?_)
  refine lv_if_eq (tgt := 18) hx hb dX6_countOf_8 (by decide) (fun c_8 => ?_) (fun c_8 => ?_)
  · have hf := if_t c_8 hf
    refine lv_iload_n hx hb dX6_countOf_18 rfl (lv_at hl 0 rfl) ?_
    refine lv_bipush (v := (84 : Int32)) hx hb dX6_countOf_19 (by decide) ?_
    refine lv_icmp_ne (tgt := 29) hx hb dX6_countOf_21 (by decide) (fun c_21 => ?_) (fun c_21 => ?_)
    · have hf := if_f c_21 hf
      refine lv_iload_n hx hb dX6_countOf_29 rfl (lv_at hl 0 rfl) ?_
      refine lv_bipush (v := (65 : Int32)) hx hb dX6_countOf_30 (by decide) ?_
      refine lv_icmp_ne (tgt := 39) hx hb dX6_countOf_32 (by decide) (fun c_32 => ?_) (fun c_32 => ?_)
      · have hf := if_f c_32 hf
        refine lv_iload_n hx hb dX6_countOf_39 rfl (lv_at hl 0 rfl) ?_
        obtain ⟨r40, hc40, hf⟩ := bd_some hf
        refine cS_I X hA hP hD hS hl.1 (c_X6_isCourt l E p1 r40 hc40) 1 k_707 mw_X6_isCourt hd_X6_isCourt ⟨Nat.le_of_ble_eq_true rfl, Nat.le_of_ble_eq_true rfl⟩ [] [] [] rfl rfl (wr := []) rfl rfl rfl rfl rfl (Nat.le_of_ble_eq_true rfl) rfl (ws' := (wd_X6_countOf E)) rfl ⟨Nat.le_of_ble_eq_true rfl, Nat.le_of_ble_eq_true rfl⟩ dX6_countOf_40 (fun H locs hP hD hS => ?_)
        refine lv_if_eq (tgt := 50) hx hb dX6_countOf_43 (by decide) (fun c_43 => ?_) (fun c_43 => ?_)
        · have hf := if_t c_43 hf
          refine lv_iconst (v := (0 : Int32)) hx hb dX6_countOf_50 (by decide) ?_
          exact fin' _ hf 51 ls H locs dX6_countOf_51 rfl hP hD hS
        · have hf := if_f c_43 hf
          refine lv_iload_n hx hb dX6_countOf_46 rfl (lv_at hl 1 rfl) ?_
          refine lv_goto (tgt := 51) hx hb dX6_countOf_47 (by decide) ?_
          exact fin' _ hf 51 ls H locs dX6_countOf_51 rfl hP hD hS
      · have hf := if_t c_32 hf
        refine lv_iconst (v := (1 : Int32)) hx hb dX6_countOf_35 (by decide) ?_
        refine lv_goto (tgt := 51) hx hb dX6_countOf_36 (by decide) ?_
        exact fin' _ hf 51 ls H locs dX6_countOf_51 rfl hP hD hS
    · have hf := if_t c_21 hf
      refine lv_bipush (v := (10 : Int32)) hx hb dX6_countOf_24 (by decide) ?_
      refine lv_goto (tgt := 51) hx hb dX6_countOf_26 (by decide) ?_
      exact fin' _ hf 51 ls H locs dX6_countOf_51 rfl hP hD hS
  · have hf := if_f c_8 hf
    refine lv_iload_n hx hb dX6_countOf_11 rfl (lv_at hl 0 rfl) ?_
    refine lv_bipush (v := (48 : Int32)) hx hb dX6_countOf_12 (by decide) ?_
    refine lv_isub hx hb dX6_countOf_14 ?_
    refine lv_goto (tgt := 51) hx hb dX6_countOf_15 (by decide) ?_
    exact fin' _ hf 51 ls H locs dX6_countOf_51 rfl hP hD hS
abbrev wd_X6_place (E : EN) (a_t : Nat) (a_t_page : Nat) (x_t_signs : Int32) (w_t_pad : Value) (x_t_places : Int32) (x_t_begins : Int32) (x_t_court : Int32) (x_t_allowed : Int32) (w_t_weight : Value) (x_t_sights : Int32) (w_t_sight : Value) (w_t_count : Value) (x_t_opens : Int32) (w_t_open : Value) (w_t_behind : Value) (w_t_outs : Value) (w_t_pack : Value) (w_t_image : Value) (w_t_isKept : Value) (x_t_page : Nat → Int32) : va_W := [(a_t, e_O 6 [.int x_t_signs, w_t_pad, .int x_t_places, .ref a_t_page, .int x_t_begins, .int x_t_court, .int x_t_allowed, w_t_weight, .int x_t_sights, w_t_sight, w_t_count, .int x_t_opens, w_t_open, w_t_behind, w_t_outs, w_t_pack, w_t_image, w_t_isKept]), (a_t_page, e_I E 40 x_t_page)]
def f_X6_place (p1 : Int32) (p2 : Int32) (x_t_places : Int32) (x_t_court : Int32) (x_t_page : Nat → Int32) : Option (Int32) :=
  Option.bind (f_X6_isPlace p1 x_t_places) (fun r2 =>
  if r2 = 0 then
    some (-1 : Int32)
  else
    ck (inB p1 40) (
    Option.bind (f_X6_countOf (x_t_page (ix p1)) x_t_court) (fun r20 =>
    if p2 = 0 then
      some (x_t_page (ix p1))
    else
      if p2 = (1 : Int32) then
        if r20 = 0 then
          some (-6 : Int32)
        else
          some r20
      else
        some (-2 : Int32))))
set_option maxHeartbeats 4000000 in
set_option maxRecDepth 100000 in
theorem c_X6_place (l : Launch) (E : EN) (a_t a_t_page : Nat) (x_t_signs : Int32) (w_t_pad : Value) (x_t_places : Int32) (x_t_begins : Int32) (x_t_court : Int32) (x_t_allowed : Int32) (w_t_weight : Value) (x_t_sights : Int32) (w_t_sight : Value) (w_t_count : Value) (x_t_opens : Int32) (w_t_open : Value) (w_t_behind : Value) (w_t_outs : Value) (w_t_pack : Value) (w_t_image : Value) (w_t_isKept : Value) (x_t_page : Nat → Int32) (p1 : Int32) (p2 : Int32) (res : Int32) (hf : f_X6_place p1 p2 x_t_places x_t_court x_t_page = some res) : CtI l yX6_place cX6_place 4 .int 2 43 E [.ref a_t, .int p1, .int p2] (wd_X6_place E a_t a_t_page x_t_signs w_t_pad x_t_places x_t_begins x_t_court x_t_allowed w_t_weight x_t_sights w_t_sight w_t_count x_t_opens w_t_open w_t_behind w_t_outs w_t_pack w_t_image w_t_isKept x_t_page) (wd_X6_place E a_t a_t_page x_t_signs w_t_pad x_t_places x_t_begins x_t_court x_t_allowed w_t_weight x_t_sights w_t_sight w_t_count x_t_opens w_t_open w_t_behind w_t_outs w_t_pack w_t_image w_t_isKept x_t_page) res := by
  refine CtI.of RX6 (by decide) rfl (Nat.le_of_ble_eq_true rfl) ?_
  intro p e s m below meth c A Q ls X hA hP hD hl fin
  have hx := X.1
  have hb := X.2.1
  have hl : lv_has ls 4 [(0, .ref a_t), (1, .int p1), (2, .int p2)] := hl
  have fin' : ∀ (fr0 : Int32), some fr0 = some res → ∀ (pc : Nat) (ls : Array Slot) (H : Heap) (locs : List Loc), decode cX6_place pc = .ok (.ireturn, 1) → narrow .int (.int fr0) = .int fr0 → va_P E.1 vwCl (wd_X6_place E a_t a_t_page x_t_signs w_t_pad x_t_places x_t_begins x_t_court x_t_allowed w_t_weight x_t_sights w_t_sight w_t_count x_t_opens w_t_open w_t_behind w_t_outs w_t_pack w_t_image w_t_isKept x_t_page) H → va_D A (wd_X6_place E a_t a_t_page x_t_signs w_t_pad x_t_places x_t_begins x_t_court x_t_allowed w_t_weight x_t_sights w_t_sight w_t_count x_t_opens w_t_open w_t_behind w_t_outs w_t_pack w_t_image w_t_isKept x_t_page) → va_S A s.heap H locs → W p l e (rmm 2 43) s m ([.ref a_t, .int p1, .int p2] : List Value).toArray below meth c H locs 0 0 Q (F0 m pc ls [.int fr0]) := by
    intro fr0 he
    cases he
    exact fin
  have hS : va_S A s.heap s.heap [] := va_S.rf
  obtain ⟨H, hH9⟩ : ∃ z, z = s.heap := ⟨_, rfl⟩
  obtain ⟨locs, hL9⟩ : ∃ z : List Loc, z = [] := ⟨_, rfl⟩
  rw [← hL9]
  rw [← hL9] at hS
  have hP : va_P E.1 vwCl (wd_X6_place E a_t a_t_page x_t_signs w_t_pad x_t_places x_t_begins x_t_court x_t_allowed w_t_weight x_t_sights w_t_sight w_t_count x_t_opens w_t_open w_t_behind w_t_outs w_t_pack w_t_image w_t_isKept x_t_page) H := by rw [hH9]; exact hP
  have hS : va_S A s.heap H locs := by rw [hH9]; exact hS
  suffices hgoal : W p l e (rmm 2 43) s m ([.ref a_t, .int p1, .int p2] : List Value).toArray below meth c H locs 0 0 Q (F0 m 0 ls []) by rw [hH9] at hgoal; exact hgoal
  rw [f_X6_place] at hf
  refine lv_aload_n hx hb dX6_place_0 rfl (lv_at hl 0 rfl) ?_
  refine lv_iload_n hx hb dX6_place_1 rfl (lv_at hl 1 rfl) ?_
  obtain ⟨r2, hc2, hf⟩ := bd_some hf
  refine cV_I X hA hP hD hS hl.1 (c_X6_isPlace l E a_t x_t_signs w_t_pad x_t_places (.ref a_t_page) x_t_begins x_t_court x_t_allowed w_t_weight x_t_sights w_t_sight w_t_count x_t_opens w_t_open w_t_behind w_t_outs w_t_pack w_t_image w_t_isKept p1 r2 hc2) 1 k_738 mw_X6_isPlace hd_X6_isPlace ⟨Nat.le_of_ble_eq_true rfl, Nat.le_of_ble_eq_true rfl⟩ [0] [1] [1, 0] rfl rfl (wr := [1].filterMap (fun i => (wd_X6_place E a_t a_t_page x_t_signs w_t_pad x_t_places x_t_begins x_t_court x_t_allowed w_t_weight x_t_sights w_t_sight w_t_count x_t_opens w_t_open w_t_behind w_t_outs w_t_pack w_t_image w_t_isKept x_t_page)[i]?)) rfl rfl rfl 6 0 rfl rfl rfl rfl rfl (Nat.le_of_ble_eq_true rfl) rfl (ws' := (wd_X6_place E a_t a_t_page x_t_signs w_t_pad x_t_places x_t_begins x_t_court x_t_allowed w_t_weight x_t_sights w_t_sight w_t_count x_t_opens w_t_open w_t_behind w_t_outs w_t_pack w_t_image w_t_isKept x_t_page)) rfl ⟨Nat.le_of_ble_eq_true rfl, Nat.le_of_ble_eq_true rfl⟩ dX6_place_2 (fun H locs hP hD hS => ?_)
  refine lv_if_ne (tgt := 10) hx hb dX6_place_5 (by decide) (fun c_5 => ?_) (fun c_5 => ?_)
  · have hf := if_f c_5 hf
    refine lv_aload_n hx hb dX6_place_10 rfl (lv_at hl 0 rfl) ?_
    refine gf_X6_17 X hP 0 rfl rfl dX6_place_11 ?_
    refine lv_iload_n hx hb dX6_place_14 rfl (lv_at hl 1 rfl) ?_
    obtain ⟨hi15, hf⟩ := ck_some hf
    refine r_iald X hP 1 rfl hi15 dX6_place_15 ?_
    refine lv_aload_n hx hb dX6_place_16 rfl (lv_at hl 0 rfl) ?_
    refine gf_X6_23 X hP 0 rfl rfl dX6_place_17 ?_
    obtain ⟨r20, hc20, hf⟩ := bd_some hf
    refine cS_I X hA hP hD hS hl.1 (c_X6_countOf l E (x_t_page (ix p1)) x_t_court r20 hc20) 2 k_742 mw_X6_countOf hd_X6_countOf ⟨Nat.le_of_ble_eq_true rfl, Nat.le_of_ble_eq_true rfl⟩ [] [0, 1] [0, 1] rfl rfl (wr := [0, 1].filterMap (fun i => (wd_X6_place E a_t a_t_page x_t_signs w_t_pad x_t_places x_t_begins x_t_court x_t_allowed w_t_weight x_t_sights w_t_sight w_t_count x_t_opens w_t_open w_t_behind w_t_outs w_t_pack w_t_image w_t_isKept x_t_page)[i]?)) rfl rfl rfl rfl rfl (Nat.le_of_ble_eq_true rfl) rfl (ws' := (wd_X6_place E a_t a_t_page x_t_signs w_t_pad x_t_places x_t_begins x_t_court x_t_allowed w_t_weight x_t_sights w_t_sight w_t_count x_t_opens w_t_open w_t_behind w_t_outs w_t_pack w_t_image w_t_isKept x_t_page)) rfl ⟨Nat.le_of_ble_eq_true rfl, Nat.le_of_ble_eq_true rfl⟩ dX6_place_20 (fun H locs hP hD hS => ?_)
    refine lv_istore_n (lv' := [(3, .int r20), (0, .ref a_t), (1, .int p1), (2, .int p2)]) hx hb dX6_place_23 rfl hl (by decide) rfl (fun ls hl => ?_)
    refine lv_iload_n hx hb dX6_place_24 rfl (lv_at hl 3 rfl) ?_
    refine lv_if_ne (tgt := 37) hx hb dX6_place_25 (by decide) (fun c_25 => ?_) (fun c_25 => ?_)
    · have hf := if_f c_25 hf
      refine lv_iload_n hx hb dX6_place_37 rfl (lv_at hl 3 rfl) ?_
      refine lv_iconst (v := (1 : Int32)) hx hb dX6_place_38 (by decide) ?_
      refine lv_icmp_ne (tgt := 55) hx hb dX6_place_39 (by decide) (fun c_39 => ?_) (fun c_39 => ?_)
      · have hf := if_f c_39 hf
        refine lv_bipush (v := (-2 : Int32)) hx hb dX6_place_55 (by decide) ?_
        exact fin' _ hf 57 ls H locs dX6_place_57 rfl hP hD hS
      · have hf := if_t c_39 hf
        refine lv_iload_n hx hb dX6_place_42 rfl (lv_at hl 0 rfl) ?_
        refine lv_if_ne (tgt := 51) hx hb dX6_place_43 (by decide) (fun c_43 => ?_) (fun c_43 => ?_)
        · have hf := if_f c_43 hf
          refine lv_iload_n hx hb dX6_place_51 rfl (lv_at hl 0 rfl) ?_
          refine lv_goto (tgt := 57) hx hb dX6_place_52 (by decide) ?_
          exact fin' _ hf 57 ls H locs dX6_place_57 rfl hP hD hS
        · have hf := if_t c_43 hf
          refine lv_bipush (v := (-6 : Int32)) hx hb dX6_place_46 (by decide) ?_
          refine lv_goto (tgt := 57) hx hb dX6_place_48 (by decide) ?_
          exact fin' _ hf 57 ls H locs dX6_place_57 rfl hP hD hS
    · have hf := if_t c_25 hf
      refine lv_aload_n hx hb dX6_place_28 rfl (lv_at hl 1 rfl) ?_
      refine gf_X6_17 X hP 0 rfl rfl dX6_place_29 ?_
      refine lv_iload_n hx hb dX6_place_32 rfl (lv_at hl 2 rfl) ?_
      refine r_iald X hP 1 rfl hi15 dX6_place_33 ?_
      refine lv_goto (tgt := 57) hx hb dX6_place_34 (by decide) ?_
      exact fin' _ hf 57 ls H locs dX6_place_57 rfl hP hD hS
  · have hf := if_t c_5 hf
    refine lv_iconst (v := (-1 : Int32)) hx hb dX6_place_8 (by decide) ?_
    exact fin' _ hf 9 ls H locs dX6_place_9 rfl hP hD hS
abbrev wd_X6_many (E : EN) (a_t : Nat) (a_t_page : Nat) (x_t_signs : Int32) (w_t_pad : Value) (x_t_places : Int32) (x_t_begins : Int32) (x_t_court : Int32) (x_t_allowed : Int32) (w_t_weight : Value) (x_t_sights : Int32) (w_t_sight : Value) (w_t_count : Value) (x_t_opens : Int32) (w_t_open : Value) (w_t_behind : Value) (w_t_outs : Value) (w_t_pack : Value) (w_t_image : Value) (w_t_isKept : Value) (x_t_page : Nat → Int32) : va_W := [(a_t, e_O 6 [.int x_t_signs, w_t_pad, .int x_t_places, .ref a_t_page, .int x_t_begins, .int x_t_court, .int x_t_allowed, w_t_weight, .int x_t_sights, w_t_sight, w_t_count, .int x_t_opens, w_t_open, w_t_behind, w_t_outs, w_t_pack, w_t_image, w_t_isKept]), (a_t_page, e_I E 40 x_t_page)]
def f_X6_many_4 (p1 : Int32) (x_t_places : Int32) (x_t_page : Nat → Int32)  : Nat → Int32 → Int32 → Option (Int32)
  | 0, _, _ => none
  | n_ + 1, v2, v3 =>
    if x_t_places ≤ v3 then
      some v2
    else
      ck (inB v3 40) (
      if (x_t_page (ix v3)) = p1 then
        f_X6_many_4 p1 x_t_places x_t_page n_ (v2 + (1 : Int32)) (v3 + (1 : Int32))
      else
        f_X6_many_4 p1 x_t_places x_t_page n_ (v2 + (0 : Int32)) (v3 + (1 : Int32)))
def f_X6_many (p1 : Int32) (x_t_places : Int32) (x_t_page : Nat → Int32) : Option (Int32) :=
  f_X6_many_4 p1 x_t_places x_t_page FU (0 : Int32) (0 : Int32)
set_option maxHeartbeats 4000000 in
set_option maxRecDepth 100000 in
theorem c_X6_many (l : Launch) (E : EN) (a_t a_t_page : Nat) (x_t_signs : Int32) (w_t_pad : Value) (x_t_places : Int32) (x_t_begins : Int32) (x_t_court : Int32) (x_t_allowed : Int32) (w_t_weight : Value) (x_t_sights : Int32) (w_t_sight : Value) (w_t_count : Value) (x_t_opens : Int32) (w_t_open : Value) (w_t_behind : Value) (w_t_outs : Value) (w_t_pack : Value) (w_t_image : Value) (w_t_isKept : Value) (x_t_page : Nat → Int32) (p1 : Int32) (res : Int32) (hf : f_X6_many p1 x_t_places x_t_page = some res) : CtI l yX6_many cX6_many 4 .int 0 0 E [.ref a_t, .int p1] (wd_X6_many E a_t a_t_page x_t_signs w_t_pad x_t_places x_t_begins x_t_court x_t_allowed w_t_weight x_t_sights w_t_sight w_t_count x_t_opens w_t_open w_t_behind w_t_outs w_t_pack w_t_image w_t_isKept x_t_page) (wd_X6_many E a_t a_t_page x_t_signs w_t_pad x_t_places x_t_begins x_t_court x_t_allowed w_t_weight x_t_sights w_t_sight w_t_count x_t_opens w_t_open w_t_behind w_t_outs w_t_pack w_t_image w_t_isKept x_t_page) res := by
  refine CtI.of RX6 (by decide) rfl (Nat.le_of_ble_eq_true rfl) ?_
  intro p e s m below meth c A Q ls X hA hP hD hl fin
  have hx := X.1
  have hb := X.2.1
  have hl : lv_has ls 4 [(0, .ref a_t), (1, .int p1)] := hl
  have fin' : ∀ (fr0 : Int32), some fr0 = some res → ∀ (pc : Nat) (ls : Array Slot) (H : Heap) (locs : List Loc), decode cX6_many pc = .ok (.ireturn, 1) → narrow .int (.int fr0) = .int fr0 → va_P E.1 vwCl (wd_X6_many E a_t a_t_page x_t_signs w_t_pad x_t_places x_t_begins x_t_court x_t_allowed w_t_weight x_t_sights w_t_sight w_t_count x_t_opens w_t_open w_t_behind w_t_outs w_t_pack w_t_image w_t_isKept x_t_page) H → va_D A (wd_X6_many E a_t a_t_page x_t_signs w_t_pad x_t_places x_t_begins x_t_court x_t_allowed w_t_weight x_t_sights w_t_sight w_t_count x_t_opens w_t_open w_t_behind w_t_outs w_t_pack w_t_image w_t_isKept x_t_page) → va_S A s.heap H locs → W p l e (rmm 0 0) s m ([.ref a_t, .int p1] : List Value).toArray below meth c H locs 0 0 Q (F0 m pc ls [.int fr0]) := by
    intro fr0 he
    cases he
    exact fin
  have L4 : ∀ (n4 : Nat) (v2 : Int32) (v3 : Int32), f_X6_many_4 p1 x_t_places x_t_page n4 v2 v3 = some res → ∀ (H : Heap) (locs : List Loc) (ls : Array Slot), va_P E.1 vwCl (wd_X6_many E a_t a_t_page x_t_signs w_t_pad x_t_places x_t_begins x_t_court x_t_allowed w_t_weight x_t_sights w_t_sight w_t_count x_t_opens w_t_open w_t_behind w_t_outs w_t_pack w_t_image w_t_isKept x_t_page) H → va_D A (wd_X6_many E a_t a_t_page x_t_signs w_t_pad x_t_places x_t_begins x_t_court x_t_allowed w_t_weight x_t_sights w_t_sight w_t_count x_t_opens w_t_open w_t_behind w_t_outs w_t_pack w_t_image w_t_isKept x_t_page) → va_S A s.heap H locs → lv_has ls 4 [(0, .ref a_t), (1, .int p1), (2, .int v2), (3, .int v3)] → W p l e (rmm 0 0) s m ([.ref a_t, .int p1] : List Value).toArray below meth c H locs 0 0 Q (F0 m 4 ls []) := by
    intro n4
    induction n4 with
    | zero => intro v2 v3 hf; rw [f_X6_many_4] at hf; cases hf
    | succ n4 ih4 =>
      intro v2 v3 hf H locs ls hP hD hS hl
      rw [f_X6_many_4] at hf
      refine lv_iload_n hx hb dX6_many_4 rfl (lv_at hl 3 rfl) ?_
      refine lv_aload_n hx hb dX6_many_5 rfl (lv_at hl 0 rfl) ?_
      refine gf_X6_13 X hP 0 rfl rfl dX6_many_6 ?_
      refine lv_icmp_ge (tgt := 36) hx hb dX6_many_9 (by decide) (fun c_9 => ?_) (fun c_9 => ?_)
      · have hf := if_t c_9 hf
        refine lv_iload_n hx hb dX6_many_36 rfl (lv_at hl 2 rfl) ?_
        exact fin' _ hf 37 ls H locs dX6_many_37 rfl hP hD hS
      · have hf := if_f c_9 hf
        refine lv_iload_n hx hb dX6_many_12 rfl (lv_at hl 2 rfl) ?_
        refine lv_aload_n hx hb dX6_many_13 rfl (lv_at hl 0 rfl) ?_
        refine gf_X6_17 X hP 0 rfl rfl dX6_many_14 ?_
        refine lv_iload_n hx hb dX6_many_17 rfl (lv_at hl 3 rfl) ?_
        obtain ⟨hi18, hf⟩ := ck_some hf
        refine r_iald X hP 1 rfl hi18 dX6_many_18 ?_
        refine lv_iload_n hx hb dX6_many_19 rfl (lv_at hl 1 rfl) ?_
        refine lv_icmp_ne (tgt := 27) hx hb dX6_many_20 (by decide) (fun c_20 => ?_) (fun c_20 => ?_)
        · have hf := if_f c_20 hf
          refine lv_iconst (v := (0 : Int32)) hx hb dX6_many_27 (by decide) ?_
          refine lv_iadd hx hb dX6_many_28 ?_
          refine lv_istore_n (lv' := [(2, .int (v2 + (0 : Int32))), (0, .ref a_t), (1, .int p1), (3, .int v3)]) hx hb dX6_many_29 rfl hl (by decide) rfl (fun ls hl => ?_)
          refine lv_iinc (v := (v3 + (1 : Int32))) (lv' := [(3, .int (v3 + (1 : Int32))), (2, .int (v2 + (0 : Int32))), (0, .ref a_t), (1, .int p1)]) hx hb dX6_many_30 hl (k := 3) rfl rfl (by decide) rfl (fun ls hl => ?_)
          refine lv_goto (tgt := 4) hx hb dX6_many_33 (by decide) ?_
          exact ih4 (v2 + (0 : Int32)) (v3 + (1 : Int32)) hf H locs ls hP hD hS (lv_sub hl [2, 3, 1, 0] rfl)
        · have hf := if_t c_20 hf
          refine lv_iconst (v := (1 : Int32)) hx hb dX6_many_23 (by decide) ?_
          refine lv_goto (tgt := 28) hx hb dX6_many_24 (by decide) ?_
          refine lv_iadd hx hb dX6_many_28 ?_
          refine lv_istore_n (lv' := [(2, .int (v2 + (1 : Int32))), (0, .ref a_t), (1, .int p1), (3, .int v3)]) hx hb dX6_many_29 rfl hl (by decide) rfl (fun ls hl => ?_)
          refine lv_iinc (v := (v3 + (1 : Int32))) (lv' := [(3, .int (v3 + (1 : Int32))), (2, .int (v2 + (1 : Int32))), (0, .ref a_t), (1, .int p1)]) hx hb dX6_many_30 hl (k := 3) rfl rfl (by decide) rfl (fun ls hl => ?_)
          refine lv_goto (tgt := 4) hx hb dX6_many_33 (by decide) ?_
          exact ih4 (v2 + (1 : Int32)) (v3 + (1 : Int32)) hf H locs ls hP hD hS (lv_sub hl [2, 3, 1, 0] rfl)
  have hS : va_S A s.heap s.heap [] := va_S.rf
  obtain ⟨H, hH9⟩ : ∃ z, z = s.heap := ⟨_, rfl⟩
  obtain ⟨locs, hL9⟩ : ∃ z : List Loc, z = [] := ⟨_, rfl⟩
  rw [← hL9]
  rw [← hL9] at hS
  have hP : va_P E.1 vwCl (wd_X6_many E a_t a_t_page x_t_signs w_t_pad x_t_places x_t_begins x_t_court x_t_allowed w_t_weight x_t_sights w_t_sight w_t_count x_t_opens w_t_open w_t_behind w_t_outs w_t_pack w_t_image w_t_isKept x_t_page) H := by rw [hH9]; exact hP
  have hS : va_S A s.heap H locs := by rw [hH9]; exact hS
  suffices hgoal : W p l e (rmm 0 0) s m ([.ref a_t, .int p1] : List Value).toArray below meth c H locs 0 0 Q (F0 m 0 ls []) by rw [hH9] at hgoal; exact hgoal
  rw [f_X6_many] at hf
  refine lv_iconst (v := (0 : Int32)) hx hb dX6_many_0 (by decide) ?_
  refine lv_istore_n (lv' := [(2, .int (0 : Int32)), (0, .ref a_t), (1, .int p1)]) hx hb dX6_many_1 rfl hl (by decide) rfl (fun ls hl => ?_)
  refine lv_iconst (v := (0 : Int32)) hx hb dX6_many_2 (by decide) ?_
  refine lv_istore_n (lv' := [(3, .int (0 : Int32)), (2, .int (0 : Int32)), (0, .ref a_t), (1, .int p1)]) hx hb dX6_many_3 rfl hl (by decide) rfl (fun ls hl => ?_)
  exact L4 FU (0 : Int32) (0 : Int32) hf H locs ls hP hD hS (lv_sub hl [2, 3, 1, 0] rfl)
abbrev wd_X6_isWhole (E : EN) (a_t : Nat) (a_t_page : Nat) (x_t_signs : Int32) (w_t_pad : Value) (x_t_places : Int32) (x_t_begins : Int32) (x_t_court : Int32) (x_t_allowed : Int32) (w_t_weight : Value) (x_t_sights : Int32) (w_t_sight : Value) (w_t_count : Value) (x_t_opens : Int32) (w_t_open : Value) (w_t_behind : Value) (w_t_outs : Value) (w_t_pack : Value) (w_t_image : Value) (w_t_isKept : Value) (x_t_page : Nat → Int32) : va_W := [(a_t, e_O 6 [.int x_t_signs, w_t_pad, .int x_t_places, .ref a_t_page, .int x_t_begins, .int x_t_court, .int x_t_allowed, w_t_weight, .int x_t_sights, w_t_sight, w_t_count, .int x_t_opens, w_t_open, w_t_behind, w_t_outs, w_t_pack, w_t_image, w_t_isKept]), (a_t_page, e_I E 40 x_t_page)]
def f_X6_isWhole (x_t_places : Int32) (x_t_page : Nat → Int32) : Option (Int32) :=
  Option.bind (f_X6_many (42 : Int32) x_t_places x_t_page) (fun r3 =>
  if r3 = 0 then
    Option.bind (f_X6_many (63 : Int32) x_t_places x_t_page) (fun r12 =>
    if r12 = 0 then
      some (1 : Int32)
    else
      some (0 : Int32))
  else
    some (0 : Int32))
set_option maxHeartbeats 4000000 in
set_option maxRecDepth 100000 in
theorem c_X6_isWhole (l : Launch) (E : EN) (a_t a_t_page : Nat) (x_t_signs : Int32) (w_t_pad : Value) (x_t_places : Int32) (x_t_begins : Int32) (x_t_court : Int32) (x_t_allowed : Int32) (w_t_weight : Value) (x_t_sights : Int32) (w_t_sight : Value) (w_t_count : Value) (x_t_opens : Int32) (w_t_open : Value) (w_t_behind : Value) (w_t_outs : Value) (w_t_pack : Value) (w_t_image : Value) (w_t_isKept : Value) (x_t_page : Nat → Int32)  (res : Int32) (hf : f_X6_isWhole x_t_places x_t_page = some res) : CtI l yX6_isWhole cX6_isWhole 1 .boolean 1 23 E [.ref a_t] (wd_X6_isWhole E a_t a_t_page x_t_signs w_t_pad x_t_places x_t_begins x_t_court x_t_allowed w_t_weight x_t_sights w_t_sight w_t_count x_t_opens w_t_open w_t_behind w_t_outs w_t_pack w_t_image w_t_isKept x_t_page) (wd_X6_isWhole E a_t a_t_page x_t_signs w_t_pad x_t_places x_t_begins x_t_court x_t_allowed w_t_weight x_t_sights w_t_sight w_t_count x_t_opens w_t_open w_t_behind w_t_outs w_t_pack w_t_image w_t_isKept x_t_page) res := by
  refine CtI.of RX6 (by decide) rfl (Nat.le_of_ble_eq_true rfl) ?_
  intro p e s m below meth c A Q ls X hA hP hD hl fin
  have hx := X.1
  have hb := X.2.1
  have hl : lv_has ls 1 [(0, .ref a_t)] := hl
  have fin' : ∀ (fr0 : Int32), some fr0 = some res → ∀ (pc : Nat) (ls : Array Slot) (H : Heap) (locs : List Loc), decode cX6_isWhole pc = .ok (.ireturn, 1) → narrow .boolean (.int fr0) = .int fr0 → va_P E.1 vwCl (wd_X6_isWhole E a_t a_t_page x_t_signs w_t_pad x_t_places x_t_begins x_t_court x_t_allowed w_t_weight x_t_sights w_t_sight w_t_count x_t_opens w_t_open w_t_behind w_t_outs w_t_pack w_t_image w_t_isKept x_t_page) H → va_D A (wd_X6_isWhole E a_t a_t_page x_t_signs w_t_pad x_t_places x_t_begins x_t_court x_t_allowed w_t_weight x_t_sights w_t_sight w_t_count x_t_opens w_t_open w_t_behind w_t_outs w_t_pack w_t_image w_t_isKept x_t_page) → va_S A s.heap H locs → W p l e (rmm 1 23) s m ([.ref a_t] : List Value).toArray below meth c H locs 0 0 Q (F0 m pc ls [.int fr0]) := by
    intro fr0 he
    cases he
    exact fin
  have hS : va_S A s.heap s.heap [] := va_S.rf
  obtain ⟨H, hH9⟩ : ∃ z, z = s.heap := ⟨_, rfl⟩
  obtain ⟨locs, hL9⟩ : ∃ z : List Loc, z = [] := ⟨_, rfl⟩
  rw [← hL9]
  rw [← hL9] at hS
  have hP : va_P E.1 vwCl (wd_X6_isWhole E a_t a_t_page x_t_signs w_t_pad x_t_places x_t_begins x_t_court x_t_allowed w_t_weight x_t_sights w_t_sight w_t_count x_t_opens w_t_open w_t_behind w_t_outs w_t_pack w_t_image w_t_isKept x_t_page) H := by rw [hH9]; exact hP
  have hS : va_S A s.heap H locs := by rw [hH9]; exact hS
  suffices hgoal : W p l e (rmm 1 23) s m ([.ref a_t] : List Value).toArray below meth c H locs 0 0 Q (F0 m 0 ls []) by rw [hH9] at hgoal; exact hgoal
  rw [f_X6_isWhole] at hf
  refine lv_aload_n hx hb dX6_isWhole_0 rfl (lv_at hl 0 rfl) ?_
  refine lv_bipush (v := (42 : Int32)) hx hb dX6_isWhole_1 (by decide) ?_
  obtain ⟨r3, hc3, hf⟩ := bd_some hf
  refine cV_I X hA hP hD hS hl.1 (c_X6_many l E a_t a_t_page x_t_signs w_t_pad x_t_places x_t_begins x_t_court x_t_allowed w_t_weight x_t_sights w_t_sight w_t_count x_t_opens w_t_open w_t_behind w_t_outs w_t_pack w_t_image w_t_isKept x_t_page (42 : Int32) r3 hc3) 1 k_753 mw_X6_many hd_X6_many ⟨Nat.le_of_ble_eq_true rfl, Nat.le_of_ble_eq_true rfl⟩ [0, 1] [] [0, 1] rfl rfl (wr := []) rfl rfl rfl 6 0 rfl rfl rfl rfl rfl (Nat.le_of_ble_eq_true rfl) rfl (ws' := (wd_X6_isWhole E a_t a_t_page x_t_signs w_t_pad x_t_places x_t_begins x_t_court x_t_allowed w_t_weight x_t_sights w_t_sight w_t_count x_t_opens w_t_open w_t_behind w_t_outs w_t_pack w_t_image w_t_isKept x_t_page)) rfl ⟨Nat.le_of_ble_eq_true rfl, Nat.le_of_ble_eq_true rfl⟩ dX6_isWhole_3 (fun H locs hP hD hS => ?_)
  refine lv_if_ne (tgt := 22) hx hb dX6_isWhole_6 (by decide) (fun c_6 => ?_) (fun c_6 => ?_)
  · have hf := if_f c_6 hf
    refine lv_iconst (v := (0 : Int32)) hx hb dX6_isWhole_22 (by decide) ?_
    exact fin' _ hf 23 ls H locs dX6_isWhole_23 rfl hP hD hS
  · have hf := if_t c_6 hf
    refine lv_aload_n hx hb dX6_isWhole_9 rfl (lv_at hl 0 rfl) ?_
    refine lv_bipush (v := (63 : Int32)) hx hb dX6_isWhole_10 (by decide) ?_
    obtain ⟨r12, hc12, hf⟩ := bd_some hf
    refine cV_I X hA hP hD hS hl.1 (c_X6_many l E a_t a_t_page x_t_signs w_t_pad x_t_places x_t_begins x_t_court x_t_allowed w_t_weight x_t_sights w_t_sight w_t_count x_t_opens w_t_open w_t_behind w_t_outs w_t_pack w_t_image w_t_isKept x_t_page (63 : Int32) r12 hc12) 1 k_753 mw_X6_many hd_X6_many ⟨Nat.le_of_ble_eq_true rfl, Nat.le_of_ble_eq_true rfl⟩ [0, 1] [] [0, 1] rfl rfl (wr := []) rfl rfl rfl 6 0 rfl rfl rfl rfl rfl (Nat.le_of_ble_eq_true rfl) rfl (ws' := (wd_X6_isWhole E a_t a_t_page x_t_signs w_t_pad x_t_places x_t_begins x_t_court x_t_allowed w_t_weight x_t_sights w_t_sight w_t_count x_t_opens w_t_open w_t_behind w_t_outs w_t_pack w_t_image w_t_isKept x_t_page)) rfl ⟨Nat.le_of_ble_eq_true rfl, Nat.le_of_ble_eq_true rfl⟩ dX6_isWhole_12 (fun H locs hP hD hS => ?_)
    refine lv_if_ne (tgt := 22) hx hb dX6_isWhole_15 (by decide) (fun c_15 => ?_) (fun c_15 => ?_)
    · have hf := if_f c_15 hf
      refine lv_iconst (v := (0 : Int32)) hx hb dX6_isWhole_22 (by decide) ?_
      exact fin' _ hf 23 ls H locs dX6_isWhole_23 rfl hP hD hS
    · have hf := if_t c_15 hf
      refine lv_iconst (v := (1 : Int32)) hx hb dX6_isWhole_18 (by decide) ?_
      refine lv_goto (tgt := 23) hx hb dX6_isWhole_19 (by decide) ?_
      exact fin' _ hf 23 ls H locs dX6_isWhole_23 rfl hP hD hS
abbrev wd_X6_lay (E : EN) (a_t : Nat) (a_t_count : Nat) (a_t_page : Nat) (a_t_open : Nat) (x_t_signs : Int32) (w_t_pad : Value) (x_t_places : Int32) (x_t_begins : Int32) (x_t_court : Int32) (x_t_allowed : Int32) (w_t_weight : Value) (x_t_sights : Int32) (w_t_sight : Value) (x_t_opens : Int32) (w_t_behind : Value) (w_t_outs : Value) (w_t_pack : Value) (w_t_image : Value) (w_t_isKept : Value) (x_t_count : Nat → Int32) (x_t_page : Nat → Int32) (x_t_open : Nat → Int32) : va_W := [(a_t, e_O 6 [.int x_t_signs, w_t_pad, .int x_t_places, .ref a_t_page, .int x_t_begins, .int x_t_court, .int x_t_allowed, w_t_weight, .int x_t_sights, w_t_sight, .ref a_t_count, .int x_t_opens, .ref a_t_open, w_t_behind, w_t_outs, w_t_pack, w_t_image, w_t_isKept]), (a_t_count, e_I E 40 x_t_count), (a_t_page, e_I E 40 x_t_page), (a_t_open, e_I E 5 x_t_open)]
def f_X6_lay_7 (p1 : Int32) (x_t_places : Int32) (x_t_page : Nat → Int32)  : Nat → Int32 → Int32 → (Nat → Int32) → (Nat → Int32) → Option (Int32 × (Nat → Int32) × (Nat → Int32))
  | 0, _, _, _, _ => none
  | n_ + 1, v2, m_t_opens, m_t_count, m_t_open =>
    if x_t_places ≤ v2 then
      some (m_t_opens, m_t_count, m_t_open)
    else
      ck (inB v2 40) (
      Option.bind (f_X6_countOf (x_t_page (ix v2)) p1) (fun r27 =>
      if ((upd m_t_count (ix v2) r27) (ix v2)) = 0 then
        ck (inB m_t_opens 5) (
        f_X6_lay_7 p1 x_t_places x_t_page n_ (v2 + (1 : Int32)) (m_t_opens + (1 : Int32)) (upd m_t_count (ix v2) r27) (upd m_t_open (ix m_t_opens) v2))
      else
        f_X6_lay_7 p1 x_t_places x_t_page n_ (v2 + (1 : Int32)) m_t_opens (upd m_t_count (ix v2) r27) m_t_open))
def f_X6_lay (p1 : Int32) (x_t_places : Int32) (x_t_count : Nat → Int32) (x_t_page : Nat → Int32) (x_t_open : Nat → Int32) : Option (Int32 × (Nat → Int32) × (Nat → Int32)) :=
  f_X6_lay_7 p1 x_t_places x_t_page FU (0 : Int32) (0 : Int32) x_t_count x_t_open
set_option maxHeartbeats 4000000 in
set_option maxRecDepth 100000 in
theorem c_X6_lay (l : Launch) (E : EN) (a_t a_t_count a_t_page a_t_open : Nat) (x_t_signs : Int32) (w_t_pad : Value) (x_t_places : Int32) (x_t_begins : Int32) (x_t_court : Int32) (x_t_allowed : Int32) (w_t_weight : Value) (x_t_sights : Int32) (w_t_sight : Value) (x_t_opens : Int32) (w_t_behind : Value) (w_t_outs : Value) (w_t_pack : Value) (w_t_image : Value) (w_t_isKept : Value) (x_t_count : Nat → Int32) (x_t_page : Nat → Int32) (x_t_open : Nat → Int32) (p1 : Int32) (res : Int32 × (Nat → Int32) × (Nat → Int32)) (hf : f_X6_lay p1 x_t_places x_t_count x_t_page x_t_open = some res) : CtV l yX6_lay cX6_lay 3 2 43 E [.ref a_t, .int p1] (wd_X6_lay E a_t a_t_count a_t_page a_t_open x_t_signs w_t_pad x_t_places x_t_begins x_t_court x_t_allowed w_t_weight x_t_sights w_t_sight x_t_opens w_t_behind w_t_outs w_t_pack w_t_image w_t_isKept x_t_count x_t_page x_t_open) (wd_X6_lay E a_t a_t_count a_t_page a_t_open x_t_signs w_t_pad x_t_places x_t_begins x_t_court x_t_allowed w_t_weight x_t_sights w_t_sight res.1 w_t_behind w_t_outs w_t_pack w_t_image w_t_isKept res.2.1 x_t_page res.2.2) := by
  refine CtV.of RX6 (by decide) rfl (Nat.le_of_ble_eq_true rfl) ?_
  intro p e s m below meth c A Q ls X hA hP hD hl fin
  have hx := X.1
  have hb := X.2.1
  have hl : lv_has ls 3 [(0, .ref a_t), (1, .int p1)] := hl
  have fin' : ∀ (fr0 : Int32) (fr1 : (Nat → Int32)) (fr2 : (Nat → Int32)), some (fr0, fr1, fr2) = some res → ∀ (pc : Nat) (ls : Array Slot) (H : Heap) (locs : List Loc), decode cX6_lay pc = .ok (.return_, 1) → va_P E.1 vwCl (wd_X6_lay E a_t a_t_count a_t_page a_t_open x_t_signs w_t_pad x_t_places x_t_begins x_t_court x_t_allowed w_t_weight x_t_sights w_t_sight fr0 w_t_behind w_t_outs w_t_pack w_t_image w_t_isKept fr1 x_t_page fr2) H → va_D A (wd_X6_lay E a_t a_t_count a_t_page a_t_open x_t_signs w_t_pad x_t_places x_t_begins x_t_court x_t_allowed w_t_weight x_t_sights w_t_sight fr0 w_t_behind w_t_outs w_t_pack w_t_image w_t_isKept fr1 x_t_page fr2) → va_S A s.heap H locs → W p l e (rmm 2 43) s m ([.ref a_t, .int p1] : List Value).toArray below meth c H locs 0 0 Q (F0 m pc ls []) := by
    intro fr0 fr1 fr2 he
    cases he
    exact fin
  have L7 : ∀ (n7 : Nat) (v2 : Int32) (m_t_opens : Int32) (m_t_count : Nat → Int32) (m_t_open : Nat → Int32), f_X6_lay_7 p1 x_t_places x_t_page n7 v2 m_t_opens m_t_count m_t_open = some res → ∀ (H : Heap) (locs : List Loc) (ls : Array Slot), va_P E.1 vwCl (wd_X6_lay E a_t a_t_count a_t_page a_t_open x_t_signs w_t_pad x_t_places x_t_begins x_t_court x_t_allowed w_t_weight x_t_sights w_t_sight m_t_opens w_t_behind w_t_outs w_t_pack w_t_image w_t_isKept m_t_count x_t_page m_t_open) H → va_D A (wd_X6_lay E a_t a_t_count a_t_page a_t_open x_t_signs w_t_pad x_t_places x_t_begins x_t_court x_t_allowed w_t_weight x_t_sights w_t_sight m_t_opens w_t_behind w_t_outs w_t_pack w_t_image w_t_isKept m_t_count x_t_page m_t_open) → va_S A s.heap H locs → lv_has ls 3 [(0, .ref a_t), (1, .int p1), (2, .int v2)] → W p l e (rmm 2 43) s m ([.ref a_t, .int p1] : List Value).toArray below meth c H locs 0 0 Q (F0 m 7 ls []) := by
    intro n7
    induction n7 with
    | zero => intro v2 m_t_opens m_t_count m_t_open hf; rw [f_X6_lay_7] at hf; cases hf
    | succ n7 ih7 =>
      intro v2 m_t_opens m_t_count m_t_open hf H locs ls hP hD hS hl
      rw [f_X6_lay_7] at hf
      refine lv_iload_n hx hb dX6_lay_7 rfl (lv_at hl 2 rfl) ?_
      refine lv_aload_n hx hb dX6_lay_8 rfl (lv_at hl 0 rfl) ?_
      refine gf_X6_13 X hP 0 rfl rfl dX6_lay_9 ?_
      refine lv_icmp_ge (tgt := 66) hx hb dX6_lay_12 (by decide) (fun c_12 => ?_) (fun c_12 => ?_)
      · have hf := if_t c_12 hf
        exact fin' _ _ _ hf 66 ls H locs dX6_lay_66 hP hD hS
      · have hf := if_f c_12 hf
        refine lv_aload_n hx hb dX6_lay_15 rfl (lv_at hl 0 rfl) ?_
        refine gf_X6_35 X hP 0 rfl rfl dX6_lay_16 ?_
        refine lv_iload_n hx hb dX6_lay_19 rfl (lv_at hl 2 rfl) ?_
        refine lv_aload_n hx hb dX6_lay_20 rfl (lv_at hl 0 rfl) ?_
        refine gf_X6_17 X hP 0 rfl rfl dX6_lay_21 ?_
        refine lv_iload_n hx hb dX6_lay_24 rfl (lv_at hl 2 rfl) ?_
        obtain ⟨hi25, hf⟩ := ck_some hf
        refine r_iald X hP 2 rfl hi25 dX6_lay_25 ?_
        refine lv_iload_n hx hb dX6_lay_26 rfl (lv_at hl 1 rfl) ?_
        obtain ⟨r27, hc27, hf⟩ := bd_some hf
        refine cS_I X hA hP hD hS hl.1 (c_X6_countOf l E (x_t_page (ix v2)) p1 r27 hc27) 2 k_742 mw_X6_countOf hd_X6_countOf ⟨Nat.le_of_ble_eq_true rfl, Nat.le_of_ble_eq_true rfl⟩ [] [0, 1, 2, 3] [0, 1, 2, 3] rfl rfl (wr := [0, 1, 2, 3].filterMap (fun i => (wd_X6_lay E a_t a_t_count a_t_page a_t_open x_t_signs w_t_pad x_t_places x_t_begins x_t_court x_t_allowed w_t_weight x_t_sights w_t_sight m_t_opens w_t_behind w_t_outs w_t_pack w_t_image w_t_isKept m_t_count x_t_page m_t_open)[i]?)) rfl rfl rfl rfl rfl (Nat.le_of_ble_eq_true rfl) rfl (ws' := (wd_X6_lay E a_t a_t_count a_t_page a_t_open x_t_signs w_t_pad x_t_places x_t_begins x_t_court x_t_allowed w_t_weight x_t_sights w_t_sight m_t_opens w_t_behind w_t_outs w_t_pack w_t_image w_t_isKept m_t_count x_t_page m_t_open)) rfl ⟨Nat.le_of_ble_eq_true rfl, Nat.le_of_ble_eq_true rfl⟩ dX6_lay_27 (fun H locs hP hD hS => ?_)
        refine r_iast X hP hD hS 1 rfl hi25 (ws' := (wd_X6_lay E a_t a_t_count a_t_page a_t_open x_t_signs w_t_pad x_t_places x_t_begins x_t_court x_t_allowed w_t_weight x_t_sights w_t_sight m_t_opens w_t_behind w_t_outs w_t_pack w_t_image w_t_isKept (upd m_t_count (ix v2) r27) x_t_page m_t_open)) rfl dX6_lay_30 (fun H locs hP hD hS => ?_)
        refine lv_aload_n hx hb dX6_lay_31 rfl (lv_at hl 0 rfl) ?_
        refine gf_X6_35 X hP 0 rfl rfl dX6_lay_32 ?_
        refine lv_iload_n hx hb dX6_lay_35 rfl (lv_at hl 2 rfl) ?_
        refine r_iald X hP 1 rfl hi25 dX6_lay_36 ?_
        refine lv_if_ne (tgt := 60) hx hb dX6_lay_37 (by decide) (fun c_37 => ?_) (fun c_37 => ?_)
        · have hf := if_f c_37 hf
          refine lv_iinc (v := (v2 + (1 : Int32))) (lv' := [(2, .int (v2 + (1 : Int32))), (0, .ref a_t), (1, .int p1)]) hx hb dX6_lay_60 hl (k := 2) rfl rfl (by decide) rfl (fun ls hl => ?_)
          refine lv_goto (tgt := 7) hx hb dX6_lay_63 (by decide) ?_
          exact ih7 (v2 + (1 : Int32)) m_t_opens (upd m_t_count (ix v2) r27) m_t_open hf H locs ls hP hD hS (lv_sub hl [1, 2, 0] rfl)
        · have hf := if_t c_37 hf
          refine lv_aload_n hx hb dX6_lay_40 rfl (lv_at hl 0 rfl) ?_
          refine gf_X6_38 X hP 0 rfl rfl dX6_lay_41 ?_
          refine lv_aload_n hx hb dX6_lay_44 rfl (lv_at hl 0 rfl) ?_
          refine gf_X6_89 X hP 0 rfl rfl dX6_lay_45 ?_
          refine lv_iload_n hx hb dX6_lay_48 rfl (lv_at hl 2 rfl) ?_
          obtain ⟨hi49, hf⟩ := ck_some hf
          refine r_iast X hP hD hS 3 rfl hi49 (ws' := (wd_X6_lay E a_t a_t_count a_t_page a_t_open x_t_signs w_t_pad x_t_places x_t_begins x_t_court x_t_allowed w_t_weight x_t_sights w_t_sight m_t_opens w_t_behind w_t_outs w_t_pack w_t_image w_t_isKept (upd m_t_count (ix v2) r27) x_t_page (upd m_t_open (ix m_t_opens) v2))) rfl dX6_lay_49 (fun H locs hP hD hS => ?_)
          refine lv_aload_n hx hb dX6_lay_50 rfl (lv_at hl 0 rfl) ?_
          refine lv_dup hx hb dX6_lay_51 rfl ?_
          refine gf_X6_89 X hP 0 rfl rfl dX6_lay_52 ?_
          refine lv_iconst (v := (1 : Int32)) hx hb dX6_lay_55 (by decide) ?_
          refine lv_iadd hx hb dX6_lay_56 ?_
          refine pf_X6_89 X hP hD hS 0 rfl (Nat.le_of_ble_eq_true rfl) (ws' := (wd_X6_lay E a_t a_t_count a_t_page a_t_open x_t_signs w_t_pad x_t_places x_t_begins x_t_court x_t_allowed w_t_weight x_t_sights w_t_sight (m_t_opens + (1 : Int32)) w_t_behind w_t_outs w_t_pack w_t_image w_t_isKept (upd m_t_count (ix v2) r27) x_t_page (upd m_t_open (ix m_t_opens) v2))) rfl dX6_lay_57 (fun H locs hP hD hS => ?_)
          refine lv_iinc (v := (v2 + (1 : Int32))) (lv' := [(2, .int (v2 + (1 : Int32))), (0, .ref a_t), (1, .int p1)]) hx hb dX6_lay_60 hl (k := 2) rfl rfl (by decide) rfl (fun ls hl => ?_)
          refine lv_goto (tgt := 7) hx hb dX6_lay_63 (by decide) ?_
          exact ih7 (v2 + (1 : Int32)) (m_t_opens + (1 : Int32)) (upd m_t_count (ix v2) r27) (upd m_t_open (ix m_t_opens) v2) hf H locs ls hP hD hS (lv_sub hl [1, 2, 0] rfl)
  have hS : va_S A s.heap s.heap [] := va_S.rf
  obtain ⟨H, hH9⟩ : ∃ z, z = s.heap := ⟨_, rfl⟩
  obtain ⟨locs, hL9⟩ : ∃ z : List Loc, z = [] := ⟨_, rfl⟩
  rw [← hL9]
  rw [← hL9] at hS
  have hP : va_P E.1 vwCl (wd_X6_lay E a_t a_t_count a_t_page a_t_open x_t_signs w_t_pad x_t_places x_t_begins x_t_court x_t_allowed w_t_weight x_t_sights w_t_sight x_t_opens w_t_behind w_t_outs w_t_pack w_t_image w_t_isKept x_t_count x_t_page x_t_open) H := by rw [hH9]; exact hP
  have hS : va_S A s.heap H locs := by rw [hH9]; exact hS
  suffices hgoal : W p l e (rmm 2 43) s m ([.ref a_t, .int p1] : List Value).toArray below meth c H locs 0 0 Q (F0 m 0 ls []) by rw [hH9] at hgoal; exact hgoal
  rw [f_X6_lay] at hf
  refine lv_aload_n hx hb dX6_lay_0 rfl (lv_at hl 0 rfl) ?_
  refine lv_iconst (v := (0 : Int32)) hx hb dX6_lay_1 (by decide) ?_
  refine pf_X6_89 X hP hD hS 0 rfl (Nat.le_of_ble_eq_true rfl) (ws' := (wd_X6_lay E a_t a_t_count a_t_page a_t_open x_t_signs w_t_pad x_t_places x_t_begins x_t_court x_t_allowed w_t_weight x_t_sights w_t_sight (0 : Int32) w_t_behind w_t_outs w_t_pack w_t_image w_t_isKept x_t_count x_t_page x_t_open)) rfl dX6_lay_2 (fun H locs hP hD hS => ?_)
  refine lv_iconst (v := (0 : Int32)) hx hb dX6_lay_5 (by decide) ?_
  refine lv_istore_n (lv' := [(2, .int (0 : Int32)), (0, .ref a_t), (1, .int p1)]) hx hb dX6_lay_6 rfl hl (by decide) rfl (fun ls hl => ?_)
  exact L7 FU (0 : Int32) (0 : Int32) x_t_count x_t_open hf H locs ls hP hD hS (lv_sub hl [1, 2, 0] rfl)
abbrev wd_X6_outOf (E : EN) (a_t : Nat) (a_t_count : Nat) (x_t_signs : Int32) (w_t_pad : Value) (x_t_places : Int32) (w_t_page : Value) (x_t_begins : Int32) (x_t_court : Int32) (x_t_allowed : Int32) (w_t_weight : Value) (x_t_sights : Int32) (w_t_sight : Value) (x_t_opens : Int32) (w_t_open : Value) (w_t_behind : Value) (w_t_outs : Value) (w_t_pack : Value) (w_t_image : Value) (w_t_isKept : Value) (x_t_count : Nat → Int32) : va_W := [(a_t, e_O 6 [.int x_t_signs, w_t_pad, .int x_t_places, w_t_page, .int x_t_begins, .int x_t_court, .int x_t_allowed, w_t_weight, .int x_t_sights, w_t_sight, .ref a_t_count, .int x_t_opens, w_t_open, w_t_behind, w_t_outs, w_t_pack, w_t_image, w_t_isKept]), (a_t_count, e_I E 40 x_t_count)]
def f_X6_outOf_2 (x_t_places : Int32) (x_t_count : Nat → Int32)  : Nat → Int32 → Option (Int32)
  | 0, _ => none
  | n_ + 1, v2 =>
    ck (inB v2 40) (
    if x_t_places ≤ (v2 + (x_t_count (ix v2))) then
      some v2
    else
      f_X6_outOf_2 x_t_places x_t_count n_ (v2 + (x_t_count (ix v2))))
def f_X6_outOf (p1 : Int32) (x_t_places : Int32) (x_t_count : Nat → Int32) : Option (Int32) :=
  f_X6_outOf_2 x_t_places x_t_count FU p1
set_option maxHeartbeats 4000000 in
set_option maxRecDepth 100000 in
theorem c_X6_outOf (l : Launch) (E : EN) (a_t a_t_count : Nat) (x_t_signs : Int32) (w_t_pad : Value) (x_t_places : Int32) (w_t_page : Value) (x_t_begins : Int32) (x_t_court : Int32) (x_t_allowed : Int32) (w_t_weight : Value) (x_t_sights : Int32) (w_t_sight : Value) (x_t_opens : Int32) (w_t_open : Value) (w_t_behind : Value) (w_t_outs : Value) (w_t_pack : Value) (w_t_image : Value) (w_t_isKept : Value) (x_t_count : Nat → Int32) (p1 : Int32) (res : Int32) (hf : f_X6_outOf p1 x_t_places x_t_count = some res) : CtI l yX6_outOf cX6_outOf 3 .int 0 0 E [.ref a_t, .int p1] (wd_X6_outOf E a_t a_t_count x_t_signs w_t_pad x_t_places w_t_page x_t_begins x_t_court x_t_allowed w_t_weight x_t_sights w_t_sight x_t_opens w_t_open w_t_behind w_t_outs w_t_pack w_t_image w_t_isKept x_t_count) (wd_X6_outOf E a_t a_t_count x_t_signs w_t_pad x_t_places w_t_page x_t_begins x_t_court x_t_allowed w_t_weight x_t_sights w_t_sight x_t_opens w_t_open w_t_behind w_t_outs w_t_pack w_t_image w_t_isKept x_t_count) res := by
  refine CtI.of RX6 (by decide) rfl (Nat.le_of_ble_eq_true rfl) ?_
  intro p e s m below meth c A Q ls X hA hP hD hl fin
  have hx := X.1
  have hb := X.2.1
  have hl : lv_has ls 3 [(0, .ref a_t), (1, .int p1)] := hl
  have fin' : ∀ (fr0 : Int32), some fr0 = some res → ∀ (pc : Nat) (ls : Array Slot) (H : Heap) (locs : List Loc), decode cX6_outOf pc = .ok (.ireturn, 1) → narrow .int (.int fr0) = .int fr0 → va_P E.1 vwCl (wd_X6_outOf E a_t a_t_count x_t_signs w_t_pad x_t_places w_t_page x_t_begins x_t_court x_t_allowed w_t_weight x_t_sights w_t_sight x_t_opens w_t_open w_t_behind w_t_outs w_t_pack w_t_image w_t_isKept x_t_count) H → va_D A (wd_X6_outOf E a_t a_t_count x_t_signs w_t_pad x_t_places w_t_page x_t_begins x_t_court x_t_allowed w_t_weight x_t_sights w_t_sight x_t_opens w_t_open w_t_behind w_t_outs w_t_pack w_t_image w_t_isKept x_t_count) → va_S A s.heap H locs → W p l e (rmm 0 0) s m ([.ref a_t, .int p1] : List Value).toArray below meth c H locs 0 0 Q (F0 m pc ls [.int fr0]) := by
    intro fr0 he
    cases he
    exact fin
  have L2 : ∀ (n2 : Nat) (v2 : Int32), f_X6_outOf_2 x_t_places x_t_count n2 v2 = some res → ∀ (H : Heap) (locs : List Loc) (ls : Array Slot), va_P E.1 vwCl (wd_X6_outOf E a_t a_t_count x_t_signs w_t_pad x_t_places w_t_page x_t_begins x_t_court x_t_allowed w_t_weight x_t_sights w_t_sight x_t_opens w_t_open w_t_behind w_t_outs w_t_pack w_t_image w_t_isKept x_t_count) H → va_D A (wd_X6_outOf E a_t a_t_count x_t_signs w_t_pad x_t_places w_t_page x_t_begins x_t_court x_t_allowed w_t_weight x_t_sights w_t_sight x_t_opens w_t_open w_t_behind w_t_outs w_t_pack w_t_image w_t_isKept x_t_count) → va_S A s.heap H locs → lv_has ls 3 [(0, .ref a_t), (2, .int v2)] → W p l e (rmm 0 0) s m ([.ref a_t, .int p1] : List Value).toArray below meth c H locs 0 0 Q (F0 m 2 ls []) := by
    intro n2
    induction n2 with
    | zero => intro v2 hf; rw [f_X6_outOf_2] at hf; cases hf
    | succ n2 ih2 =>
      intro v2 hf H locs ls hP hD hS hl
      rw [f_X6_outOf_2] at hf
      refine lv_iload_n hx hb dX6_outOf_2 rfl (lv_at hl 1 rfl) ?_
      refine lv_aload_n hx hb dX6_outOf_3 rfl (lv_at hl 0 rfl) ?_
      refine gf_X6_35 X hP 0 rfl rfl dX6_outOf_4 ?_
      refine lv_iload_n hx hb dX6_outOf_7 rfl (lv_at hl 1 rfl) ?_
      obtain ⟨hi8, hf⟩ := ck_some hf
      refine r_iald X hP 1 rfl hi8 dX6_outOf_8 ?_
      refine lv_iadd hx hb dX6_outOf_9 ?_
      refine lv_aload_n hx hb dX6_outOf_10 rfl (lv_at hl 0 rfl) ?_
      refine gf_X6_13 X hP 0 rfl rfl dX6_outOf_11 ?_
      refine lv_icmp_ge (tgt := 29) hx hb dX6_outOf_14 (by decide) (fun c_14 => ?_) (fun c_14 => ?_)
      · have hf := if_t c_14 hf
        refine lv_iload_n hx hb dX6_outOf_29 rfl (lv_at hl 1 rfl) ?_
        exact fin' _ hf 30 ls H locs dX6_outOf_30 rfl hP hD hS
      · have hf := if_f c_14 hf
        refine lv_iload_n hx hb dX6_outOf_17 rfl (lv_at hl 1 rfl) ?_
        refine lv_aload_n hx hb dX6_outOf_18 rfl (lv_at hl 0 rfl) ?_
        refine gf_X6_35 X hP 0 rfl rfl dX6_outOf_19 ?_
        refine lv_iload_n hx hb dX6_outOf_22 rfl (lv_at hl 1 rfl) ?_
        refine r_iald X hP 1 rfl hi8 dX6_outOf_23 ?_
        refine lv_iadd hx hb dX6_outOf_24 ?_
        refine lv_istore_n (lv' := [(2, .int (v2 + (x_t_count (ix v2)))), (0, .ref a_t)]) hx hb dX6_outOf_25 rfl hl (by decide) rfl (fun ls hl => ?_)
        refine lv_goto (tgt := 2) hx hb dX6_outOf_26 (by decide) ?_
        exact ih2 (v2 + (x_t_count (ix v2))) hf H locs ls hP hD hS (lv_sub hl [1, 0] rfl)
  have hS : va_S A s.heap s.heap [] := va_S.rf
  obtain ⟨H, hH9⟩ : ∃ z, z = s.heap := ⟨_, rfl⟩
  obtain ⟨locs, hL9⟩ : ∃ z : List Loc, z = [] := ⟨_, rfl⟩
  rw [← hL9]
  rw [← hL9] at hS
  have hP : va_P E.1 vwCl (wd_X6_outOf E a_t a_t_count x_t_signs w_t_pad x_t_places w_t_page x_t_begins x_t_court x_t_allowed w_t_weight x_t_sights w_t_sight x_t_opens w_t_open w_t_behind w_t_outs w_t_pack w_t_image w_t_isKept x_t_count) H := by rw [hH9]; exact hP
  have hS : va_S A s.heap H locs := by rw [hH9]; exact hS
  suffices hgoal : W p l e (rmm 0 0) s m ([.ref a_t, .int p1] : List Value).toArray below meth c H locs 0 0 Q (F0 m 0 ls []) by rw [hH9] at hgoal; exact hgoal
  rw [f_X6_outOf] at hf
  refine lv_iload_n hx hb dX6_outOf_0 rfl (lv_at hl 1 rfl) ?_
  refine lv_istore_n (lv' := [(2, .int p1), (0, .ref a_t), (1, .int p1)]) hx hb dX6_outOf_1 rfl hl (by decide) rfl (fun ls hl => ?_)
  exact L2 FU p1 hf H locs ls hP hD hS (lv_sub hl [1, 0] rfl)
abbrev wd_X6_out (E : EN) (a_t : Nat) (a_t_page : Nat) (a_t_count : Nat) (a_t_open : Nat) (x_t_signs : Int32) (w_t_pad : Value) (x_t_places : Int32) (x_t_begins : Int32) (x_t_court : Int32) (x_t_allowed : Int32) (w_t_weight : Value) (x_t_sights : Int32) (w_t_sight : Value) (x_t_opens : Int32) (w_t_behind : Value) (w_t_outs : Value) (w_t_pack : Value) (w_t_image : Value) (w_t_isKept : Value) (x_t_page : Nat → Int32) (x_t_count : Nat → Int32) (x_t_open : Nat → Int32) : va_W := [(a_t, e_O 6 [.int x_t_signs, w_t_pad, .int x_t_places, .ref a_t_page, .int x_t_begins, .int x_t_court, .int x_t_allowed, w_t_weight, .int x_t_sights, w_t_sight, .ref a_t_count, .int x_t_opens, .ref a_t_open, w_t_behind, w_t_outs, w_t_pack, w_t_image, w_t_isKept]), (a_t_page, e_I E 40 x_t_page), (a_t_count, e_I E 40 x_t_count), (a_t_open, e_I E 5 x_t_open)]
def f_X6_out (p1 : Int32) (x_t_places : Int32) (x_t_court : Int32) (x_t_opens : Int32) (x_t_page : Nat → Int32) (x_t_count : Nat → Int32) (x_t_open : Nat → Int32) : Option (Int32 × Int32 × (Nat → Int32) × (Nat → Int32)) :=
  Option.bind (f_X6_isPlace p1 x_t_places) (fun r2 =>
  if r2 = 0 then
    some ((-1 : Int32), x_t_opens, x_t_count, x_t_open)
  else
    Option.bind (f_X6_isWhole x_t_places x_t_page) (fun r11 =>
    if r11 = 0 then
      some ((-3 : Int32), x_t_opens, x_t_count, x_t_open)
    else
      Option.bind (f_X6_lay x_t_court x_t_places x_t_count x_t_page x_t_open) (fun r25 =>
      Option.bind (f_X6_outOf p1 x_t_places r25.2.1) (fun r30 =>
      some (r30, r25.1, r25.2.1, r25.2.2)))))
set_option maxHeartbeats 4000000 in
set_option maxRecDepth 100000 in
theorem c_X6_out (l : Launch) (E : EN) (a_t a_t_page a_t_count a_t_open : Nat) (x_t_signs : Int32) (w_t_pad : Value) (x_t_places : Int32) (x_t_begins : Int32) (x_t_court : Int32) (x_t_allowed : Int32) (w_t_weight : Value) (x_t_sights : Int32) (w_t_sight : Value) (x_t_opens : Int32) (w_t_behind : Value) (w_t_outs : Value) (w_t_pack : Value) (w_t_image : Value) (w_t_isKept : Value) (x_t_page : Nat → Int32) (x_t_count : Nat → Int32) (x_t_open : Nat → Int32) (p1 : Int32) (res : Int32 × Int32 × (Nat → Int32) × (Nat → Int32)) (hf : f_X6_out p1 x_t_places x_t_court x_t_opens x_t_page x_t_count x_t_open = some res) : CtI l yX6_out cX6_out 2 .int 3 65 E [.ref a_t, .int p1] (wd_X6_out E a_t a_t_page a_t_count a_t_open x_t_signs w_t_pad x_t_places x_t_begins x_t_court x_t_allowed w_t_weight x_t_sights w_t_sight x_t_opens w_t_behind w_t_outs w_t_pack w_t_image w_t_isKept x_t_page x_t_count x_t_open) (wd_X6_out E a_t a_t_page a_t_count a_t_open x_t_signs w_t_pad x_t_places x_t_begins x_t_court x_t_allowed w_t_weight x_t_sights w_t_sight res.2.1 w_t_behind w_t_outs w_t_pack w_t_image w_t_isKept x_t_page res.2.2.1 res.2.2.2) res.1 := by
  refine CtI.of RX6 (by decide) rfl (Nat.le_of_ble_eq_true rfl) ?_
  intro p e s m below meth c A Q ls X hA hP hD hl fin
  have hx := X.1
  have hb := X.2.1
  have hl : lv_has ls 2 [(0, .ref a_t), (1, .int p1)] := hl
  have fin' : ∀ (fr0 : Int32) (fr1 : Int32) (fr2 : (Nat → Int32)) (fr3 : (Nat → Int32)), some (fr0, fr1, fr2, fr3) = some res → ∀ (pc : Nat) (ls : Array Slot) (H : Heap) (locs : List Loc), decode cX6_out pc = .ok (.ireturn, 1) → narrow .int (.int fr0) = .int fr0 → va_P E.1 vwCl (wd_X6_out E a_t a_t_page a_t_count a_t_open x_t_signs w_t_pad x_t_places x_t_begins x_t_court x_t_allowed w_t_weight x_t_sights w_t_sight fr1 w_t_behind w_t_outs w_t_pack w_t_image w_t_isKept x_t_page fr2 fr3) H → va_D A (wd_X6_out E a_t a_t_page a_t_count a_t_open x_t_signs w_t_pad x_t_places x_t_begins x_t_court x_t_allowed w_t_weight x_t_sights w_t_sight fr1 w_t_behind w_t_outs w_t_pack w_t_image w_t_isKept x_t_page fr2 fr3) → va_S A s.heap H locs → W p l e (rmm 3 65) s m ([.ref a_t, .int p1] : List Value).toArray below meth c H locs 0 0 Q (F0 m pc ls [.int fr0]) := by
    intro fr0 fr1 fr2 fr3 he
    cases he
    exact fin
  have hS : va_S A s.heap s.heap [] := va_S.rf
  obtain ⟨H, hH9⟩ : ∃ z, z = s.heap := ⟨_, rfl⟩
  obtain ⟨locs, hL9⟩ : ∃ z : List Loc, z = [] := ⟨_, rfl⟩
  rw [← hL9]
  rw [← hL9] at hS
  have hP : va_P E.1 vwCl (wd_X6_out E a_t a_t_page a_t_count a_t_open x_t_signs w_t_pad x_t_places x_t_begins x_t_court x_t_allowed w_t_weight x_t_sights w_t_sight x_t_opens w_t_behind w_t_outs w_t_pack w_t_image w_t_isKept x_t_page x_t_count x_t_open) H := by rw [hH9]; exact hP
  have hS : va_S A s.heap H locs := by rw [hH9]; exact hS
  suffices hgoal : W p l e (rmm 3 65) s m ([.ref a_t, .int p1] : List Value).toArray below meth c H locs 0 0 Q (F0 m 0 ls []) by rw [hH9] at hgoal; exact hgoal
  rw [f_X6_out] at hf
  refine lv_aload_n hx hb dX6_out_0 rfl (lv_at hl 0 rfl) ?_
  refine lv_iload_n hx hb dX6_out_1 rfl (lv_at hl 1 rfl) ?_
  obtain ⟨r2, hc2, hf⟩ := bd_some hf
  refine cV_I X hA hP hD hS hl.1 (c_X6_isPlace l E a_t x_t_signs w_t_pad x_t_places (.ref a_t_page) x_t_begins x_t_court x_t_allowed w_t_weight x_t_sights w_t_sight (.ref a_t_count) x_t_opens (.ref a_t_open) w_t_behind w_t_outs w_t_pack w_t_image w_t_isKept p1 r2 hc2) 1 k_738 mw_X6_isPlace hd_X6_isPlace ⟨Nat.le_of_ble_eq_true rfl, Nat.le_of_ble_eq_true rfl⟩ [0] [1, 2, 3] [3, 0, 1, 2] rfl rfl (wr := [1, 2, 3].filterMap (fun i => (wd_X6_out E a_t a_t_page a_t_count a_t_open x_t_signs w_t_pad x_t_places x_t_begins x_t_court x_t_allowed w_t_weight x_t_sights w_t_sight x_t_opens w_t_behind w_t_outs w_t_pack w_t_image w_t_isKept x_t_page x_t_count x_t_open)[i]?)) rfl rfl rfl 6 0 rfl rfl rfl rfl rfl (Nat.le_of_ble_eq_true rfl) rfl (ws' := (wd_X6_out E a_t a_t_page a_t_count a_t_open x_t_signs w_t_pad x_t_places x_t_begins x_t_court x_t_allowed w_t_weight x_t_sights w_t_sight x_t_opens w_t_behind w_t_outs w_t_pack w_t_image w_t_isKept x_t_page x_t_count x_t_open)) rfl ⟨Nat.le_of_ble_eq_true rfl, Nat.le_of_ble_eq_true rfl⟩ dX6_out_2 (fun H locs hP hD hS => ?_)
  refine lv_if_ne (tgt := 10) hx hb dX6_out_5 (by decide) (fun c_5 => ?_) (fun c_5 => ?_)
  · have hf := if_f c_5 hf
    refine lv_aload_n hx hb dX6_out_10 rfl (lv_at hl 0 rfl) ?_
    obtain ⟨r11, hc11, hf⟩ := bd_some hf
    refine cV_I X hA hP hD hS hl.1 (c_X6_isWhole l E a_t a_t_page x_t_signs w_t_pad x_t_places x_t_begins x_t_court x_t_allowed w_t_weight x_t_sights w_t_sight (.ref a_t_count) x_t_opens (.ref a_t_open) w_t_behind w_t_outs w_t_pack w_t_image w_t_isKept x_t_page r11 hc11) 0 k_749 mw_X6_isWhole hd_X6_isWhole ⟨Nat.le_of_ble_eq_true rfl, Nat.le_of_ble_eq_true rfl⟩ [0, 1] [2, 3] [2, 3, 0, 1] rfl rfl (wr := [2, 3].filterMap (fun i => (wd_X6_out E a_t a_t_page a_t_count a_t_open x_t_signs w_t_pad x_t_places x_t_begins x_t_court x_t_allowed w_t_weight x_t_sights w_t_sight x_t_opens w_t_behind w_t_outs w_t_pack w_t_image w_t_isKept x_t_page x_t_count x_t_open)[i]?)) rfl rfl rfl 6 0 rfl rfl rfl rfl rfl (Nat.le_of_ble_eq_true rfl) rfl (ws' := (wd_X6_out E a_t a_t_page a_t_count a_t_open x_t_signs w_t_pad x_t_places x_t_begins x_t_court x_t_allowed w_t_weight x_t_sights w_t_sight x_t_opens w_t_behind w_t_outs w_t_pack w_t_image w_t_isKept x_t_page x_t_count x_t_open)) rfl ⟨Nat.le_of_ble_eq_true rfl, Nat.le_of_ble_eq_true rfl⟩ dX6_out_11 (fun H locs hP hD hS => ?_)
    refine lv_if_ne (tgt := 20) hx hb dX6_out_14 (by decide) (fun c_14 => ?_) (fun c_14 => ?_)
    · have hf := if_f c_14 hf
      refine lv_aload_n hx hb dX6_out_20 rfl (lv_at hl 0 rfl) ?_
      refine lv_aload_n hx hb dX6_out_21 rfl (lv_at hl 0 rfl) ?_
      refine gf_X6_23 X hP 0 rfl rfl dX6_out_22 ?_
      obtain ⟨r25, hc25, hf⟩ := bd_some hf
      refine cV_V X hA hP hD hS hl.1 (c_X6_lay l E a_t a_t_count a_t_page a_t_open x_t_signs w_t_pad x_t_places x_t_begins x_t_court x_t_allowed w_t_weight x_t_sights w_t_sight x_t_opens w_t_behind w_t_outs w_t_pack w_t_image w_t_isKept x_t_count x_t_page x_t_open x_t_court r25 hc25) 1 k_757 mw_X6_lay hd_X6_lay ⟨Nat.le_of_ble_eq_true rfl, Nat.le_of_ble_eq_true rfl⟩ [0, 2, 1, 3] [] [0, 2, 1, 3] rfl rfl (wr := []) rfl rfl rfl 6 0 rfl rfl rfl rfl rfl (Nat.le_of_ble_eq_true rfl) rfl (ws' := (wd_X6_out E a_t a_t_page a_t_count a_t_open x_t_signs w_t_pad x_t_places x_t_begins x_t_court x_t_allowed w_t_weight x_t_sights w_t_sight r25.1 w_t_behind w_t_outs w_t_pack w_t_image w_t_isKept x_t_page r25.2.1 r25.2.2)) rfl ⟨Nat.le_of_ble_eq_true rfl, Nat.le_of_ble_eq_true rfl⟩ dX6_out_25 (fun H locs hP hD hS => ?_)
      refine lv_aload_n hx hb dX6_out_28 rfl (lv_at hl 0 rfl) ?_
      refine lv_iload_n hx hb dX6_out_29 rfl (lv_at hl 1 rfl) ?_
      obtain ⟨r30, hc30, hf⟩ := bd_some hf
      refine cV_I X hA hP hD hS hl.1 (c_X6_outOf l E a_t a_t_count x_t_signs w_t_pad x_t_places (.ref a_t_page) x_t_begins x_t_court x_t_allowed w_t_weight x_t_sights w_t_sight r25.1 (.ref a_t_open) w_t_behind w_t_outs w_t_pack w_t_image w_t_isKept r25.2.1 p1 r30 hc30) 1 k_761 mw_X6_outOf hd_X6_outOf ⟨Nat.le_of_ble_eq_true rfl, Nat.le_of_ble_eq_true rfl⟩ [0, 2] [1, 3] [2, 0, 3, 1] rfl rfl (wr := [1, 3].filterMap (fun i => (wd_X6_out E a_t a_t_page a_t_count a_t_open x_t_signs w_t_pad x_t_places x_t_begins x_t_court x_t_allowed w_t_weight x_t_sights w_t_sight r25.1 w_t_behind w_t_outs w_t_pack w_t_image w_t_isKept x_t_page r25.2.1 r25.2.2)[i]?)) rfl rfl rfl 6 0 rfl rfl rfl rfl rfl (Nat.le_of_ble_eq_true rfl) rfl (ws' := (wd_X6_out E a_t a_t_page a_t_count a_t_open x_t_signs w_t_pad x_t_places x_t_begins x_t_court x_t_allowed w_t_weight x_t_sights w_t_sight r25.1 w_t_behind w_t_outs w_t_pack w_t_image w_t_isKept x_t_page r25.2.1 r25.2.2)) rfl ⟨Nat.le_of_ble_eq_true rfl, Nat.le_of_ble_eq_true rfl⟩ dX6_out_30 (fun H locs hP hD hS => ?_)
      exact fin' _ _ _ _ hf 33 ls H locs dX6_out_33 rfl hP hD hS
    · have hf := if_t c_14 hf
      refine lv_bipush (v := (-3 : Int32)) hx hb dX6_out_17 (by decide) ?_
      exact fin' _ _ _ _ hf 19 ls H locs dX6_out_19 rfl hP hD hS
  · have hf := if_t c_5 hf
    refine lv_iconst (v := (-1 : Int32)) hx hb dX6_out_8 (by decide) ?_
    exact fin' _ _ _ _ hf 9 ls H locs dX6_out_9 rfl hP hD hS
abbrev wd_X6_outsOfAll (E : EN) (a_t : Nat) (a_t_count : Nat) (x_t_signs : Int32) (w_t_pad : Value) (x_t_places : Int32) (w_t_page : Value) (x_t_begins : Int32) (x_t_court : Int32) (x_t_allowed : Int32) (w_t_weight : Value) (x_t_sights : Int32) (w_t_sight : Value) (x_t_opens : Int32) (w_t_open : Value) (w_t_behind : Value) (w_t_outs : Value) (w_t_pack : Value) (w_t_image : Value) (w_t_isKept : Value) (x_t_count : Nat → Int32) : va_W := [(a_t, e_O 6 [.int x_t_signs, w_t_pad, .int x_t_places, w_t_page, .int x_t_begins, .int x_t_court, .int x_t_allowed, w_t_weight, .int x_t_sights, w_t_sight, .ref a_t_count, .int x_t_opens, w_t_open, w_t_behind, w_t_outs, w_t_pack, w_t_image, w_t_isKept]), (a_t_count, e_I E 40 x_t_count)]
def f_X6_outsOfAll_17 (x_t_places : Int32) (x_t_count : Nat → Int32) (K_4 : Int32 → Int32 → Option (Int32)) : Nat → Int32 → Int32 → Int32 → Int32 → Option (Int32)
  | 0, _, _, _, _ => none
  | n_ + 1, v1, v2, v3, v4 =>
    if v2 ≤ v4 then
      if v3 = 0 then
        K_4 (v1 + (0 : Int32)) (v2 + (1 : Int32))
      else
        K_4 (v1 + (1 : Int32)) (v2 + (1 : Int32))
    else
      if v3 = 0 then
        f_X6_outsOfAll_17 x_t_places x_t_count K_4 n_ v1 v2 (0 : Int32) (v4 + (1 : Int32))
      else
        Option.bind (f_X6_outOf v4 x_t_places x_t_count) (fun r30 =>
        Option.bind (f_X6_outOf v2 x_t_places x_t_count) (fun r35 =>
        if r30 = r35 then
          f_X6_outsOfAll_17 x_t_places x_t_count K_4 n_ v1 v2 (0 : Int32) (v4 + (1 : Int32))
        else
          f_X6_outsOfAll_17 x_t_places x_t_count K_4 n_ v1 v2 (1 : Int32) (v4 + (1 : Int32))))
def f_X6_outsOfAll_4 (x_t_places : Int32) (x_t_begins : Int32) (x_t_count : Nat → Int32)  : Nat → Int32 → Int32 → Option (Int32)
  | 0, _, _ => none
  | n_ + 1, v1, v2 =>
    if x_t_begins ≤ v2 then
      some v1
    else
      f_X6_outsOfAll_17 x_t_places x_t_count (f_X6_outsOfAll_4 x_t_places x_t_begins x_t_count n_) FU v1 v2 (1 : Int32) (0 : Int32)
def f_X6_outsOfAll (x_t_places : Int32) (x_t_begins : Int32) (x_t_count : Nat → Int32) : Option (Int32) :=
  f_X6_outsOfAll_4 x_t_places x_t_begins x_t_count FU (0 : Int32) (0 : Int32)
set_option maxHeartbeats 4000000 in
set_option maxRecDepth 100000 in
theorem c_X6_outsOfAll (l : Launch) (E : EN) (a_t a_t_count : Nat) (x_t_signs : Int32) (w_t_pad : Value) (x_t_places : Int32) (w_t_page : Value) (x_t_begins : Int32) (x_t_court : Int32) (x_t_allowed : Int32) (w_t_weight : Value) (x_t_sights : Int32) (w_t_sight : Value) (x_t_opens : Int32) (w_t_open : Value) (w_t_behind : Value) (w_t_outs : Value) (w_t_pack : Value) (w_t_image : Value) (w_t_isKept : Value) (x_t_count : Nat → Int32)  (res : Int32) (hf : f_X6_outsOfAll x_t_places x_t_begins x_t_count = some res) : CtI l yX6_outsOfAll cX6_outsOfAll 5 .int 1 22 E [.ref a_t] (wd_X6_outsOfAll E a_t a_t_count x_t_signs w_t_pad x_t_places w_t_page x_t_begins x_t_court x_t_allowed w_t_weight x_t_sights w_t_sight x_t_opens w_t_open w_t_behind w_t_outs w_t_pack w_t_image w_t_isKept x_t_count) (wd_X6_outsOfAll E a_t a_t_count x_t_signs w_t_pad x_t_places w_t_page x_t_begins x_t_court x_t_allowed w_t_weight x_t_sights w_t_sight x_t_opens w_t_open w_t_behind w_t_outs w_t_pack w_t_image w_t_isKept x_t_count) res := by
  refine CtI.of RX6 (by decide) rfl (Nat.le_of_ble_eq_true rfl) ?_
  intro p e s m below meth c A Q ls X hA hP hD hl fin
  have hx := X.1
  have hb := X.2.1
  have hl : lv_has ls 5 [(0, .ref a_t)] := hl
  have fin' : ∀ (fr0 : Int32), some fr0 = some res → ∀ (pc : Nat) (ls : Array Slot) (H : Heap) (locs : List Loc), decode cX6_outsOfAll pc = .ok (.ireturn, 1) → narrow .int (.int fr0) = .int fr0 → va_P E.1 vwCl (wd_X6_outsOfAll E a_t a_t_count x_t_signs w_t_pad x_t_places w_t_page x_t_begins x_t_court x_t_allowed w_t_weight x_t_sights w_t_sight x_t_opens w_t_open w_t_behind w_t_outs w_t_pack w_t_image w_t_isKept x_t_count) H → va_D A (wd_X6_outsOfAll E a_t a_t_count x_t_signs w_t_pad x_t_places w_t_page x_t_begins x_t_court x_t_allowed w_t_weight x_t_sights w_t_sight x_t_opens w_t_open w_t_behind w_t_outs w_t_pack w_t_image w_t_isKept x_t_count) → va_S A s.heap H locs → W p l e (rmm 1 22) s m ([.ref a_t] : List Value).toArray below meth c H locs 0 0 Q (F0 m pc ls [.int fr0]) := by
    intro fr0 he
    cases he
    exact fin
  have L4 : ∀ (n4 : Nat) (v1 : Int32) (v2 : Int32), f_X6_outsOfAll_4 x_t_places x_t_begins x_t_count n4 v1 v2 = some res → ∀ (H : Heap) (locs : List Loc) (ls : Array Slot), va_P E.1 vwCl (wd_X6_outsOfAll E a_t a_t_count x_t_signs w_t_pad x_t_places w_t_page x_t_begins x_t_court x_t_allowed w_t_weight x_t_sights w_t_sight x_t_opens w_t_open w_t_behind w_t_outs w_t_pack w_t_image w_t_isKept x_t_count) H → va_D A (wd_X6_outsOfAll E a_t a_t_count x_t_signs w_t_pad x_t_places w_t_page x_t_begins x_t_court x_t_allowed w_t_weight x_t_sights w_t_sight x_t_opens w_t_open w_t_behind w_t_outs w_t_pack w_t_image w_t_isKept x_t_count) → va_S A s.heap H locs → lv_has ls 5 [(0, .ref a_t), (1, .int v1), (2, .int v2)] → W p l e (rmm 1 22) s m ([.ref a_t] : List Value).toArray below meth c H locs 0 0 Q (F0 m 4 ls []) := by
    intro n4
    induction n4 with
    | zero => intro v1 v2 hf; rw [f_X6_outsOfAll_4] at hf; cases hf
    | succ n4 ih4 =>
      have L17 : ∀ (n17 : Nat) (v1 : Int32) (v2 : Int32) (v3 : Int32) (v4 : Int32), f_X6_outsOfAll_17 x_t_places x_t_count (f_X6_outsOfAll_4 x_t_places x_t_begins x_t_count n4) n17 v1 v2 v3 v4 = some res → ∀ (H : Heap) (locs : List Loc) (ls : Array Slot), va_P E.1 vwCl (wd_X6_outsOfAll E a_t a_t_count x_t_signs w_t_pad x_t_places w_t_page x_t_begins x_t_court x_t_allowed w_t_weight x_t_sights w_t_sight x_t_opens w_t_open w_t_behind w_t_outs w_t_pack w_t_image w_t_isKept x_t_count) H → va_D A (wd_X6_outsOfAll E a_t a_t_count x_t_signs w_t_pad x_t_places w_t_page x_t_begins x_t_court x_t_allowed w_t_weight x_t_sights w_t_sight x_t_opens w_t_open w_t_behind w_t_outs w_t_pack w_t_image w_t_isKept x_t_count) → va_S A s.heap H locs → lv_has ls 5 [(0, .ref a_t), (1, .int v1), (2, .int v2), (3, .int v3), (4, .int v4)] → W p l e (rmm 1 22) s m ([.ref a_t] : List Value).toArray below meth c H locs 0 0 Q (F0 m 17 ls []) := by
        intro n17
        induction n17 with
        | zero => intro v1 v2 v3 v4 hf; rw [f_X6_outsOfAll_17] at hf; cases hf
        | succ n17 ih17 =>
          intro v1 v2 v3 v4 hf H locs ls hP hD hS hl
          rw [f_X6_outsOfAll_17] at hf
          refine lv_iload hx hb dX6_outsOfAll_17 (lv_at hl 4 rfl) ?_
          refine lv_iload_n hx hb dX6_outsOfAll_19 rfl (lv_at hl 2 rfl) ?_
          refine lv_icmp_ge (tgt := 53) hx hb dX6_outsOfAll_20 (by decide) (fun c_20 => ?_) (fun c_20 => ?_)
          · have hf := if_t c_20 hf
            refine lv_iload_n hx hb dX6_outsOfAll_53 rfl (lv_at hl 1 rfl) ?_
            refine lv_iload_n hx hb dX6_outsOfAll_54 rfl (lv_at hl 3 rfl) ?_
            refine lv_if_eq (tgt := 62) hx hb dX6_outsOfAll_55 (by decide) (fun c_55 => ?_) (fun c_55 => ?_)
            · have hf := if_t c_55 hf
              refine lv_iconst (v := (0 : Int32)) hx hb dX6_outsOfAll_62 (by decide) ?_
              refine lv_iadd hx hb dX6_outsOfAll_63 ?_
              refine lv_istore_n (lv' := [(1, .int (v1 + (0 : Int32))), (0, .ref a_t), (2, .int v2), (3, .int v3), (4, .int v4)]) hx hb dX6_outsOfAll_64 rfl hl (by decide) rfl (fun ls hl => ?_)
              refine lv_iinc (v := (v2 + (1 : Int32))) (lv' := [(2, .int (v2 + (1 : Int32))), (1, .int (v1 + (0 : Int32))), (0, .ref a_t), (3, .int v3), (4, .int v4)]) hx hb dX6_outsOfAll_65 hl (k := 2) rfl rfl (by decide) rfl (fun ls hl => ?_)
              refine lv_goto (tgt := 4) hx hb dX6_outsOfAll_68 (by decide) ?_
              exact ih4 (v1 + (0 : Int32)) (v2 + (1 : Int32)) hf H locs ls hP hD hS (lv_sub hl [2, 1, 0] rfl)
            · have hf := if_f c_55 hf
              refine lv_iconst (v := (1 : Int32)) hx hb dX6_outsOfAll_58 (by decide) ?_
              refine lv_goto (tgt := 63) hx hb dX6_outsOfAll_59 (by decide) ?_
              refine lv_iadd hx hb dX6_outsOfAll_63 ?_
              refine lv_istore_n (lv' := [(1, .int (v1 + (1 : Int32))), (0, .ref a_t), (2, .int v2), (3, .int v3), (4, .int v4)]) hx hb dX6_outsOfAll_64 rfl hl (by decide) rfl (fun ls hl => ?_)
              refine lv_iinc (v := (v2 + (1 : Int32))) (lv' := [(2, .int (v2 + (1 : Int32))), (1, .int (v1 + (1 : Int32))), (0, .ref a_t), (3, .int v3), (4, .int v4)]) hx hb dX6_outsOfAll_65 hl (k := 2) rfl rfl (by decide) rfl (fun ls hl => ?_)
              refine lv_goto (tgt := 4) hx hb dX6_outsOfAll_68 (by decide) ?_
              exact ih4 (v1 + (1 : Int32)) (v2 + (1 : Int32)) hf H locs ls hP hD hS (lv_sub hl [2, 1, 0] rfl)
          · have hf := if_f c_20 hf
            refine lv_iload_n hx hb dX6_outsOfAll_23 rfl (lv_at hl 3 rfl) ?_
            refine lv_if_eq (tgt := 45) hx hb dX6_outsOfAll_24 (by decide) (fun c_24 => ?_) (fun c_24 => ?_)
            · have hf := if_t c_24 hf
              refine lv_iconst (v := (0 : Int32)) hx hb dX6_outsOfAll_45 (by decide) ?_
              refine lv_istore_n (lv' := [(3, .int (0 : Int32)), (0, .ref a_t), (1, .int v1), (2, .int v2), (4, .int v4)]) hx hb dX6_outsOfAll_46 rfl hl (by decide) rfl (fun ls hl => ?_)
              refine lv_iinc (v := (v4 + (1 : Int32))) (lv' := [(4, .int (v4 + (1 : Int32))), (3, .int (0 : Int32)), (0, .ref a_t), (1, .int v1), (2, .int v2)]) hx hb dX6_outsOfAll_47 hl (k := 4) rfl rfl (by decide) rfl (fun ls hl => ?_)
              refine lv_goto (tgt := 17) hx hb dX6_outsOfAll_50 (by decide) ?_
              exact ih17 v1 v2 (0 : Int32) (v4 + (1 : Int32)) hf H locs ls hP hD hS (lv_sub hl [2, 3, 4, 1, 0] rfl)
            · have hf := if_f c_24 hf
              refine lv_aload_n hx hb dX6_outsOfAll_27 rfl (lv_at hl 0 rfl) ?_
              refine lv_iload hx hb dX6_outsOfAll_28 (lv_at hl 4 rfl) ?_
              obtain ⟨r30, hc30, hf⟩ := bd_some hf
              refine cV_I X hA hP hD hS hl.1 (c_X6_outOf l E a_t a_t_count x_t_signs w_t_pad x_t_places w_t_page x_t_begins x_t_court x_t_allowed w_t_weight x_t_sights w_t_sight x_t_opens w_t_open w_t_behind w_t_outs w_t_pack w_t_image w_t_isKept x_t_count v4 r30 hc30) 1 k_761 mw_X6_outOf hd_X6_outOf ⟨Nat.le_of_ble_eq_true rfl, Nat.le_of_ble_eq_true rfl⟩ [0, 1] [] [0, 1] rfl rfl (wr := []) rfl rfl rfl 6 0 rfl rfl rfl rfl rfl (Nat.le_of_ble_eq_true rfl) rfl (ws' := (wd_X6_outsOfAll E a_t a_t_count x_t_signs w_t_pad x_t_places w_t_page x_t_begins x_t_court x_t_allowed w_t_weight x_t_sights w_t_sight x_t_opens w_t_open w_t_behind w_t_outs w_t_pack w_t_image w_t_isKept x_t_count)) rfl ⟨Nat.le_of_ble_eq_true rfl, Nat.le_of_ble_eq_true rfl⟩ dX6_outsOfAll_30 (fun H locs hP hD hS => ?_)
              refine lv_aload_n hx hb dX6_outsOfAll_33 rfl (lv_at hl 0 rfl) ?_
              refine lv_iload_n hx hb dX6_outsOfAll_34 rfl (lv_at hl 2 rfl) ?_
              obtain ⟨r35, hc35, hf⟩ := bd_some hf
              refine cV_I X hA hP hD hS hl.1 (c_X6_outOf l E a_t a_t_count x_t_signs w_t_pad x_t_places w_t_page x_t_begins x_t_court x_t_allowed w_t_weight x_t_sights w_t_sight x_t_opens w_t_open w_t_behind w_t_outs w_t_pack w_t_image w_t_isKept x_t_count v2 r35 hc35) 1 k_761 mw_X6_outOf hd_X6_outOf ⟨Nat.le_of_ble_eq_true rfl, Nat.le_of_ble_eq_true rfl⟩ [0, 1] [] [0, 1] rfl rfl (wr := []) rfl rfl rfl 6 0 rfl rfl rfl rfl rfl (Nat.le_of_ble_eq_true rfl) rfl (ws' := (wd_X6_outsOfAll E a_t a_t_count x_t_signs w_t_pad x_t_places w_t_page x_t_begins x_t_court x_t_allowed w_t_weight x_t_sights w_t_sight x_t_opens w_t_open w_t_behind w_t_outs w_t_pack w_t_image w_t_isKept x_t_count)) rfl ⟨Nat.le_of_ble_eq_true rfl, Nat.le_of_ble_eq_true rfl⟩ dX6_outsOfAll_35 (fun H locs hP hD hS => ?_)
              refine lv_icmp_eq (tgt := 45) hx hb dX6_outsOfAll_38 (by decide) (fun c_38 => ?_) (fun c_38 => ?_)
              · have hf := if_t c_38 hf
                refine lv_iconst (v := (0 : Int32)) hx hb dX6_outsOfAll_45 (by decide) ?_
                refine lv_istore_n (lv' := [(3, .int (0 : Int32)), (0, .ref a_t), (1, .int v1), (2, .int v2), (4, .int v4)]) hx hb dX6_outsOfAll_46 rfl hl (by decide) rfl (fun ls hl => ?_)
                refine lv_iinc (v := (v4 + (1 : Int32))) (lv' := [(4, .int (v4 + (1 : Int32))), (3, .int (0 : Int32)), (0, .ref a_t), (1, .int v1), (2, .int v2)]) hx hb dX6_outsOfAll_47 hl (k := 4) rfl rfl (by decide) rfl (fun ls hl => ?_)
                refine lv_goto (tgt := 17) hx hb dX6_outsOfAll_50 (by decide) ?_
                exact ih17 v1 v2 (0 : Int32) (v4 + (1 : Int32)) hf H locs ls hP hD hS (lv_sub hl [2, 3, 4, 1, 0] rfl)
              · have hf := if_f c_38 hf
                refine lv_iconst (v := (1 : Int32)) hx hb dX6_outsOfAll_41 (by decide) ?_
                refine lv_goto (tgt := 46) hx hb dX6_outsOfAll_42 (by decide) ?_
                refine lv_istore_n (lv' := [(3, .int (1 : Int32)), (0, .ref a_t), (1, .int v1), (2, .int v2), (4, .int v4)]) hx hb dX6_outsOfAll_46 rfl hl (by decide) rfl (fun ls hl => ?_)
                refine lv_iinc (v := (v4 + (1 : Int32))) (lv' := [(4, .int (v4 + (1 : Int32))), (3, .int (1 : Int32)), (0, .ref a_t), (1, .int v1), (2, .int v2)]) hx hb dX6_outsOfAll_47 hl (k := 4) rfl rfl (by decide) rfl (fun ls hl => ?_)
                refine lv_goto (tgt := 17) hx hb dX6_outsOfAll_50 (by decide) ?_
                exact ih17 v1 v2 (1 : Int32) (v4 + (1 : Int32)) hf H locs ls hP hD hS (lv_sub hl [2, 3, 4, 1, 0] rfl)
      intro v1 v2 hf H locs ls hP hD hS hl
      rw [f_X6_outsOfAll_4] at hf
      refine lv_iload_n hx hb dX6_outsOfAll_4 rfl (lv_at hl 2 rfl) ?_
      refine lv_aload_n hx hb dX6_outsOfAll_5 rfl (lv_at hl 0 rfl) ?_
      refine gf_X6_20 X hP 0 rfl rfl dX6_outsOfAll_6 ?_
      refine lv_icmp_ge (tgt := 71) hx hb dX6_outsOfAll_9 (by decide) (fun c_9 => ?_) (fun c_9 => ?_)
      · have hf := if_t c_9 hf
        refine lv_iload_n hx hb dX6_outsOfAll_71 rfl (lv_at hl 1 rfl) ?_
        exact fin' _ hf 72 ls H locs dX6_outsOfAll_72 rfl hP hD hS
      · have hf := if_f c_9 hf
        refine lv_iconst (v := (1 : Int32)) hx hb dX6_outsOfAll_12 (by decide) ?_
        refine lv_istore_n (lv' := [(3, .int (1 : Int32)), (0, .ref a_t), (1, .int v1), (2, .int v2)]) hx hb dX6_outsOfAll_13 rfl hl (by decide) rfl (fun ls hl => ?_)
        refine lv_iconst (v := (0 : Int32)) hx hb dX6_outsOfAll_14 (by decide) ?_
        refine lv_istore (lv' := [(4, .int (0 : Int32)), (3, .int (1 : Int32)), (0, .ref a_t), (1, .int v1), (2, .int v2)]) hx hb dX6_outsOfAll_15 hl (by decide) rfl (fun ls hl => ?_)
        exact L17 FU v1 v2 (1 : Int32) (0 : Int32) hf H locs ls hP hD hS (lv_sub hl [2, 3, 4, 1, 0] rfl)
  have hS : va_S A s.heap s.heap [] := va_S.rf
  obtain ⟨H, hH9⟩ : ∃ z, z = s.heap := ⟨_, rfl⟩
  obtain ⟨locs, hL9⟩ : ∃ z : List Loc, z = [] := ⟨_, rfl⟩
  rw [← hL9]
  rw [← hL9] at hS
  have hP : va_P E.1 vwCl (wd_X6_outsOfAll E a_t a_t_count x_t_signs w_t_pad x_t_places w_t_page x_t_begins x_t_court x_t_allowed w_t_weight x_t_sights w_t_sight x_t_opens w_t_open w_t_behind w_t_outs w_t_pack w_t_image w_t_isKept x_t_count) H := by rw [hH9]; exact hP
  have hS : va_S A s.heap H locs := by rw [hH9]; exact hS
  suffices hgoal : W p l e (rmm 1 22) s m ([.ref a_t] : List Value).toArray below meth c H locs 0 0 Q (F0 m 0 ls []) by rw [hH9] at hgoal; exact hgoal
  rw [f_X6_outsOfAll] at hf
  refine lv_iconst (v := (0 : Int32)) hx hb dX6_outsOfAll_0 (by decide) ?_
  refine lv_istore_n (lv' := [(1, .int (0 : Int32)), (0, .ref a_t)]) hx hb dX6_outsOfAll_1 rfl hl (by decide) rfl (fun ls hl => ?_)
  refine lv_iconst (v := (0 : Int32)) hx hb dX6_outsOfAll_2 (by decide) ?_
  refine lv_istore_n (lv' := [(2, .int (0 : Int32)), (1, .int (0 : Int32)), (0, .ref a_t)]) hx hb dX6_outsOfAll_3 rfl hl (by decide) rfl (fun ls hl => ?_)
  exact L4 FU (0 : Int32) (0 : Int32) hf H locs ls hP hD hS (lv_sub hl [2, 1, 0] rfl)
abbrev wd_X6_streams (E : EN) (a_t : Nat) (a_t_page : Nat) (a_t_count : Nat) (a_t_open : Nat) (x_t_signs : Int32) (w_t_pad : Value) (x_t_places : Int32) (x_t_begins : Int32) (x_t_court : Int32) (x_t_allowed : Int32) (w_t_weight : Value) (x_t_sights : Int32) (w_t_sight : Value) (x_t_opens : Int32) (w_t_behind : Value) (w_t_outs : Value) (w_t_pack : Value) (w_t_image : Value) (w_t_isKept : Value) (x_t_page : Nat → Int32) (x_t_count : Nat → Int32) (x_t_open : Nat → Int32) : va_W := [(a_t, e_O 6 [.int x_t_signs, w_t_pad, .int x_t_places, .ref a_t_page, .int x_t_begins, .int x_t_court, .int x_t_allowed, w_t_weight, .int x_t_sights, w_t_sight, .ref a_t_count, .int x_t_opens, .ref a_t_open, w_t_behind, w_t_outs, w_t_pack, w_t_image, w_t_isKept]), (a_t_page, e_I E 40 x_t_page), (a_t_count, e_I E 40 x_t_count), (a_t_open, e_I E 5 x_t_open)]
def f_X6_streams (x_t_places : Int32) (x_t_begins : Int32) (x_t_court : Int32) (x_t_opens : Int32) (x_t_page : Nat → Int32) (x_t_count : Nat → Int32) (x_t_open : Nat → Int32) : Option (Int32 × Int32 × (Nat → Int32) × (Nat → Int32)) :=
  Option.bind (f_X6_isWhole x_t_places x_t_page) (fun r1 =>
  if r1 = 0 then
    some ((-3 : Int32), x_t_opens, x_t_count, x_t_open)
  else
    Option.bind (f_X6_lay x_t_court x_t_places x_t_count x_t_page x_t_open) (fun r15 =>
    Option.bind (f_X6_outsOfAll x_t_places x_t_begins r15.2.1) (fun r19 =>
    some (r19, r15.1, r15.2.1, r15.2.2))))
set_option maxHeartbeats 4000000 in
set_option maxRecDepth 100000 in
theorem c_X6_streams (l : Launch) (E : EN) (a_t a_t_page a_t_count a_t_open : Nat) (x_t_signs : Int32) (w_t_pad : Value) (x_t_places : Int32) (x_t_begins : Int32) (x_t_court : Int32) (x_t_allowed : Int32) (w_t_weight : Value) (x_t_sights : Int32) (w_t_sight : Value) (x_t_opens : Int32) (w_t_behind : Value) (w_t_outs : Value) (w_t_pack : Value) (w_t_image : Value) (w_t_isKept : Value) (x_t_page : Nat → Int32) (x_t_count : Nat → Int32) (x_t_open : Nat → Int32)  (res : Int32 × Int32 × (Nat → Int32) × (Nat → Int32)) (hf : f_X6_streams x_t_places x_t_begins x_t_court x_t_opens x_t_page x_t_count x_t_open = some res) : CtI l yX6_streams cX6_streams 1 .int 3 65 E [.ref a_t] (wd_X6_streams E a_t a_t_page a_t_count a_t_open x_t_signs w_t_pad x_t_places x_t_begins x_t_court x_t_allowed w_t_weight x_t_sights w_t_sight x_t_opens w_t_behind w_t_outs w_t_pack w_t_image w_t_isKept x_t_page x_t_count x_t_open) (wd_X6_streams E a_t a_t_page a_t_count a_t_open x_t_signs w_t_pad x_t_places x_t_begins x_t_court x_t_allowed w_t_weight x_t_sights w_t_sight res.2.1 w_t_behind w_t_outs w_t_pack w_t_image w_t_isKept x_t_page res.2.2.1 res.2.2.2) res.1 := by
  refine CtI.of RX6 (by decide) rfl (Nat.le_of_ble_eq_true rfl) ?_
  intro p e s m below meth c A Q ls X hA hP hD hl fin
  have hx := X.1
  have hb := X.2.1
  have hl : lv_has ls 1 [(0, .ref a_t)] := hl
  have fin' : ∀ (fr0 : Int32) (fr1 : Int32) (fr2 : (Nat → Int32)) (fr3 : (Nat → Int32)), some (fr0, fr1, fr2, fr3) = some res → ∀ (pc : Nat) (ls : Array Slot) (H : Heap) (locs : List Loc), decode cX6_streams pc = .ok (.ireturn, 1) → narrow .int (.int fr0) = .int fr0 → va_P E.1 vwCl (wd_X6_streams E a_t a_t_page a_t_count a_t_open x_t_signs w_t_pad x_t_places x_t_begins x_t_court x_t_allowed w_t_weight x_t_sights w_t_sight fr1 w_t_behind w_t_outs w_t_pack w_t_image w_t_isKept x_t_page fr2 fr3) H → va_D A (wd_X6_streams E a_t a_t_page a_t_count a_t_open x_t_signs w_t_pad x_t_places x_t_begins x_t_court x_t_allowed w_t_weight x_t_sights w_t_sight fr1 w_t_behind w_t_outs w_t_pack w_t_image w_t_isKept x_t_page fr2 fr3) → va_S A s.heap H locs → W p l e (rmm 3 65) s m ([.ref a_t] : List Value).toArray below meth c H locs 0 0 Q (F0 m pc ls [.int fr0]) := by
    intro fr0 fr1 fr2 fr3 he
    cases he
    exact fin
  have hS : va_S A s.heap s.heap [] := va_S.rf
  obtain ⟨H, hH9⟩ : ∃ z, z = s.heap := ⟨_, rfl⟩
  obtain ⟨locs, hL9⟩ : ∃ z : List Loc, z = [] := ⟨_, rfl⟩
  rw [← hL9]
  rw [← hL9] at hS
  have hP : va_P E.1 vwCl (wd_X6_streams E a_t a_t_page a_t_count a_t_open x_t_signs w_t_pad x_t_places x_t_begins x_t_court x_t_allowed w_t_weight x_t_sights w_t_sight x_t_opens w_t_behind w_t_outs w_t_pack w_t_image w_t_isKept x_t_page x_t_count x_t_open) H := by rw [hH9]; exact hP
  have hS : va_S A s.heap H locs := by rw [hH9]; exact hS
  suffices hgoal : W p l e (rmm 3 65) s m ([.ref a_t] : List Value).toArray below meth c H locs 0 0 Q (F0 m 0 ls []) by rw [hH9] at hgoal; exact hgoal
  rw [f_X6_streams] at hf
  refine lv_aload_n hx hb dX6_streams_0 rfl (lv_at hl 0 rfl) ?_
  obtain ⟨r1, hc1, hf⟩ := bd_some hf
  refine cV_I X hA hP hD hS hl.1 (c_X6_isWhole l E a_t a_t_page x_t_signs w_t_pad x_t_places x_t_begins x_t_court x_t_allowed w_t_weight x_t_sights w_t_sight (.ref a_t_count) x_t_opens (.ref a_t_open) w_t_behind w_t_outs w_t_pack w_t_image w_t_isKept x_t_page r1 hc1) 0 k_749 mw_X6_isWhole hd_X6_isWhole ⟨Nat.le_of_ble_eq_true rfl, Nat.le_of_ble_eq_true rfl⟩ [0, 1] [2, 3] [2, 3, 0, 1] rfl rfl (wr := [2, 3].filterMap (fun i => (wd_X6_streams E a_t a_t_page a_t_count a_t_open x_t_signs w_t_pad x_t_places x_t_begins x_t_court x_t_allowed w_t_weight x_t_sights w_t_sight x_t_opens w_t_behind w_t_outs w_t_pack w_t_image w_t_isKept x_t_page x_t_count x_t_open)[i]?)) rfl rfl rfl 6 0 rfl rfl rfl rfl rfl (Nat.le_of_ble_eq_true rfl) rfl (ws' := (wd_X6_streams E a_t a_t_page a_t_count a_t_open x_t_signs w_t_pad x_t_places x_t_begins x_t_court x_t_allowed w_t_weight x_t_sights w_t_sight x_t_opens w_t_behind w_t_outs w_t_pack w_t_image w_t_isKept x_t_page x_t_count x_t_open)) rfl ⟨Nat.le_of_ble_eq_true rfl, Nat.le_of_ble_eq_true rfl⟩ dX6_streams_1 (fun H locs hP hD hS => ?_)
  refine lv_if_ne (tgt := 10) hx hb dX6_streams_4 (by decide) (fun c_4 => ?_) (fun c_4 => ?_)
  · have hf := if_f c_4 hf
    refine lv_aload_n hx hb dX6_streams_10 rfl (lv_at hl 0 rfl) ?_
    refine lv_aload_n hx hb dX6_streams_11 rfl (lv_at hl 0 rfl) ?_
    refine gf_X6_23 X hP 0 rfl rfl dX6_streams_12 ?_
    obtain ⟨r15, hc15, hf⟩ := bd_some hf
    refine cV_V X hA hP hD hS hl.1 (c_X6_lay l E a_t a_t_count a_t_page a_t_open x_t_signs w_t_pad x_t_places x_t_begins x_t_court x_t_allowed w_t_weight x_t_sights w_t_sight x_t_opens w_t_behind w_t_outs w_t_pack w_t_image w_t_isKept x_t_count x_t_page x_t_open x_t_court r15 hc15) 1 k_757 mw_X6_lay hd_X6_lay ⟨Nat.le_of_ble_eq_true rfl, Nat.le_of_ble_eq_true rfl⟩ [0, 2, 1, 3] [] [0, 2, 1, 3] rfl rfl (wr := []) rfl rfl rfl 6 0 rfl rfl rfl rfl rfl (Nat.le_of_ble_eq_true rfl) rfl (ws' := (wd_X6_streams E a_t a_t_page a_t_count a_t_open x_t_signs w_t_pad x_t_places x_t_begins x_t_court x_t_allowed w_t_weight x_t_sights w_t_sight r15.1 w_t_behind w_t_outs w_t_pack w_t_image w_t_isKept x_t_page r15.2.1 r15.2.2)) rfl ⟨Nat.le_of_ble_eq_true rfl, Nat.le_of_ble_eq_true rfl⟩ dX6_streams_15 (fun H locs hP hD hS => ?_)
    refine lv_aload_n hx hb dX6_streams_18 rfl (lv_at hl 0 rfl) ?_
    obtain ⟨r19, hc19, hf⟩ := bd_some hf
    refine cV_I X hA hP hD hS hl.1 (c_X6_outsOfAll l E a_t a_t_count x_t_signs w_t_pad x_t_places (.ref a_t_page) x_t_begins x_t_court x_t_allowed w_t_weight x_t_sights w_t_sight r15.1 (.ref a_t_open) w_t_behind w_t_outs w_t_pack w_t_image w_t_isKept r15.2.1 r19 hc19) 0 k_769 mw_X6_outsOfAll hd_X6_outsOfAll ⟨Nat.le_of_ble_eq_true rfl, Nat.le_of_ble_eq_true rfl⟩ [0, 2] [1, 3] [2, 0, 3, 1] rfl rfl (wr := [1, 3].filterMap (fun i => (wd_X6_streams E a_t a_t_page a_t_count a_t_open x_t_signs w_t_pad x_t_places x_t_begins x_t_court x_t_allowed w_t_weight x_t_sights w_t_sight r15.1 w_t_behind w_t_outs w_t_pack w_t_image w_t_isKept x_t_page r15.2.1 r15.2.2)[i]?)) rfl rfl rfl 6 0 rfl rfl rfl rfl rfl (Nat.le_of_ble_eq_true rfl) rfl (ws' := (wd_X6_streams E a_t a_t_page a_t_count a_t_open x_t_signs w_t_pad x_t_places x_t_begins x_t_court x_t_allowed w_t_weight x_t_sights w_t_sight r15.1 w_t_behind w_t_outs w_t_pack w_t_image w_t_isKept x_t_page r15.2.1 r15.2.2)) rfl ⟨Nat.le_of_ble_eq_true rfl, Nat.le_of_ble_eq_true rfl⟩ dX6_streams_19 (fun H locs hP hD hS => ?_)
    exact fin' _ _ _ _ hf 22 ls H locs dX6_streams_22 rfl hP hD hS
  · have hf := if_t c_4 hf
    refine lv_bipush (v := (-3 : Int32)) hx hb dX6_streams_7 (by decide) ?_
    exact fin' _ _ _ _ hf 9 ls H locs dX6_streams_9 rfl hP hD hS
abbrev wd_X6_meetOf (E : EN) (a_t : Nat) (a_t_count : Nat) (x_t_signs : Int32) (w_t_pad : Value) (x_t_places : Int32) (w_t_page : Value) (x_t_begins : Int32) (x_t_court : Int32) (x_t_allowed : Int32) (w_t_weight : Value) (x_t_sights : Int32) (w_t_sight : Value) (x_t_opens : Int32) (w_t_open : Value) (w_t_behind : Value) (w_t_outs : Value) (w_t_pack : Value) (w_t_image : Value) (w_t_isKept : Value) (x_t_count : Nat → Int32) : va_W := [(a_t, e_O 6 [.int x_t_signs, w_t_pad, .int x_t_places, w_t_page, .int x_t_begins, .int x_t_court, .int x_t_allowed, w_t_weight, .int x_t_sights, w_t_sight, .ref a_t_count, .int x_t_opens, w_t_open, w_t_behind, w_t_outs, w_t_pack, w_t_image, w_t_isKept]), (a_t_count, e_I E 40 x_t_count)]
def f_X6_meetOf_23 (x_t_places : Int32) (x_t_count : Nat → Int32) (K_5 : Int32 → Int32 → Option (Int32)) (v3 : Int32) (v4 : Int32) (s0 : Int32) : Option (Int32) :=
  ck (inB s0 40) (
  if (s0 + (x_t_count (ix s0))) < x_t_places then
    if v4 ≤ v3 then
      K_5 v3 (s0 + (x_t_count (ix s0)))
    else
      K_5 (s0 + (x_t_count (ix s0))) v4
  else
    some (-6 : Int32))
def f_X6_meetOf_5 (x_t_places : Int32) (x_t_count : Nat → Int32)  : Nat → Int32 → Int32 → Option (Int32)
  | 0, _, _ => none
  | n_ + 1, v3, v4 =>
    if v3 = v4 then
      some v3
    else
      if v4 ≤ v3 then
        f_X6_meetOf_23 x_t_places x_t_count (f_X6_meetOf_5 x_t_places x_t_count n_) v3 v4 v4
      else
        f_X6_meetOf_23 x_t_places x_t_count (f_X6_meetOf_5 x_t_places x_t_count n_) v3 v4 v3
def f_X6_meetOf (p1 : Int32) (p2 : Int32) (x_t_places : Int32) (x_t_count : Nat → Int32) : Option (Int32) :=
  f_X6_meetOf_5 x_t_places x_t_count FU p1 p2
set_option maxHeartbeats 4000000 in
set_option maxRecDepth 100000 in
theorem c_X6_meetOf (l : Launch) (E : EN) (a_t a_t_count : Nat) (x_t_signs : Int32) (w_t_pad : Value) (x_t_places : Int32) (w_t_page : Value) (x_t_begins : Int32) (x_t_court : Int32) (x_t_allowed : Int32) (w_t_weight : Value) (x_t_sights : Int32) (w_t_sight : Value) (x_t_opens : Int32) (w_t_open : Value) (w_t_behind : Value) (w_t_outs : Value) (w_t_pack : Value) (w_t_image : Value) (w_t_isKept : Value) (x_t_count : Nat → Int32) (p1 : Int32) (p2 : Int32) (res : Int32) (hf : f_X6_meetOf p1 p2 x_t_places x_t_count = some res) : CtI l yX6_meetOf cX6_meetOf 7 .int 0 0 E [.ref a_t, .int p1, .int p2] (wd_X6_meetOf E a_t a_t_count x_t_signs w_t_pad x_t_places w_t_page x_t_begins x_t_court x_t_allowed w_t_weight x_t_sights w_t_sight x_t_opens w_t_open w_t_behind w_t_outs w_t_pack w_t_image w_t_isKept x_t_count) (wd_X6_meetOf E a_t a_t_count x_t_signs w_t_pad x_t_places w_t_page x_t_begins x_t_court x_t_allowed w_t_weight x_t_sights w_t_sight x_t_opens w_t_open w_t_behind w_t_outs w_t_pack w_t_image w_t_isKept x_t_count) res := by
  refine CtI.of RX6 (by decide) rfl (Nat.le_of_ble_eq_true rfl) ?_
  intro p e s m below meth c A Q ls X hA hP hD hl fin
  have hx := X.1
  have hb := X.2.1
  have hl : lv_has ls 7 [(0, .ref a_t), (1, .int p1), (2, .int p2)] := hl
  have fin' : ∀ (fr0 : Int32), some fr0 = some res → ∀ (pc : Nat) (ls : Array Slot) (H : Heap) (locs : List Loc), decode cX6_meetOf pc = .ok (.ireturn, 1) → narrow .int (.int fr0) = .int fr0 → va_P E.1 vwCl (wd_X6_meetOf E a_t a_t_count x_t_signs w_t_pad x_t_places w_t_page x_t_begins x_t_court x_t_allowed w_t_weight x_t_sights w_t_sight x_t_opens w_t_open w_t_behind w_t_outs w_t_pack w_t_image w_t_isKept x_t_count) H → va_D A (wd_X6_meetOf E a_t a_t_count x_t_signs w_t_pad x_t_places w_t_page x_t_begins x_t_court x_t_allowed w_t_weight x_t_sights w_t_sight x_t_opens w_t_open w_t_behind w_t_outs w_t_pack w_t_image w_t_isKept x_t_count) → va_S A s.heap H locs → W p l e (rmm 0 0) s m ([.ref a_t, .int p1, .int p2] : List Value).toArray below meth c H locs 0 0 Q (F0 m pc ls [.int fr0]) := by
    intro fr0 he
    cases he
    exact fin
  have L5 : ∀ (n5 : Nat) (v3 : Int32) (v4 : Int32), f_X6_meetOf_5 x_t_places x_t_count n5 v3 v4 = some res → ∀ (H : Heap) (locs : List Loc) (ls : Array Slot), va_P E.1 vwCl (wd_X6_meetOf E a_t a_t_count x_t_signs w_t_pad x_t_places w_t_page x_t_begins x_t_court x_t_allowed w_t_weight x_t_sights w_t_sight x_t_opens w_t_open w_t_behind w_t_outs w_t_pack w_t_image w_t_isKept x_t_count) H → va_D A (wd_X6_meetOf E a_t a_t_count x_t_signs w_t_pad x_t_places w_t_page x_t_begins x_t_court x_t_allowed w_t_weight x_t_sights w_t_sight x_t_opens w_t_open w_t_behind w_t_outs w_t_pack w_t_image w_t_isKept x_t_count) → va_S A s.heap H locs → lv_has ls 7 [(0, .ref a_t), (3, .int v3), (4, .int v4)] → W p l e (rmm 0 0) s m ([.ref a_t, .int p1, .int p2] : List Value).toArray below meth c H locs 0 0 Q (F0 m 5 ls []) := by
    intro n5
    induction n5 with
    | zero => intro v3 v4 hf; rw [f_X6_meetOf_5] at hf; cases hf
    | succ n5 ih5 =>
      have L23 : ∀ (v3 : Int32) (v4 : Int32) (s0 : Int32), f_X6_meetOf_23 x_t_places x_t_count (f_X6_meetOf_5 x_t_places x_t_count n5) v3 v4 s0 = some res → ∀ (H : Heap) (locs : List Loc) (ls : Array Slot), va_P E.1 vwCl (wd_X6_meetOf E a_t a_t_count x_t_signs w_t_pad x_t_places w_t_page x_t_begins x_t_court x_t_allowed w_t_weight x_t_sights w_t_sight x_t_opens w_t_open w_t_behind w_t_outs w_t_pack w_t_image w_t_isKept x_t_count) H → va_D A (wd_X6_meetOf E a_t a_t_count x_t_signs w_t_pad x_t_places w_t_page x_t_begins x_t_court x_t_allowed w_t_weight x_t_sights w_t_sight x_t_opens w_t_open w_t_behind w_t_outs w_t_pack w_t_image w_t_isKept x_t_count) → va_S A s.heap H locs → lv_has ls 7 [(0, .ref a_t), (3, .int v3), (4, .int v4)] → W p l e (rmm 0 0) s m ([.ref a_t, .int p1, .int p2] : List Value).toArray below meth c H locs 0 0 Q (F0 m 23 ls [.int s0]) := by
        intro v3 v4 s0 hf H locs ls hP hD hS hl
        rw [f_X6_meetOf_23] at hf
        refine lv_istore (lv' := [(5, .int s0), (0, .ref a_t), (3, .int v3), (4, .int v4)]) hx hb dX6_meetOf_23 hl (by decide) rfl (fun ls hl => ?_)
        refine lv_iload hx hb dX6_meetOf_25 (lv_at hl 0 rfl) ?_
        refine lv_aload_n hx hb dX6_meetOf_27 rfl (lv_at hl 1 rfl) ?_
        refine gf_X6_35 X hP 0 rfl rfl dX6_meetOf_28 ?_
        refine lv_iload hx hb dX6_meetOf_31 (lv_at hl 0 rfl) ?_
        obtain ⟨hi33, hf⟩ := ck_some hf
        refine r_iald X hP 1 rfl hi33 dX6_meetOf_33 ?_
        refine lv_iadd hx hb dX6_meetOf_34 ?_
        refine lv_istore (lv' := [(6, .int (s0 + (x_t_count (ix s0)))), (5, .int s0), (0, .ref a_t), (3, .int v3), (4, .int v4)]) hx hb dX6_meetOf_35 hl (by decide) rfl (fun ls hl => ?_)
        refine lv_iload hx hb dX6_meetOf_37 (lv_at hl 0 rfl) ?_
        refine lv_aload_n hx hb dX6_meetOf_39 rfl (lv_at hl 2 rfl) ?_
        refine gf_X6_13 X hP 0 rfl rfl dX6_meetOf_40 ?_
        refine lv_icmp_lt (tgt := 49) hx hb dX6_meetOf_43 (by decide) (fun c_43 => ?_) (fun c_43 => ?_)
        · have hf := if_t c_43 hf
          refine lv_iload_n hx hb dX6_meetOf_49 rfl (lv_at hl 3 rfl) ?_
          refine lv_iload hx hb dX6_meetOf_50 (lv_at hl 4 rfl) ?_
          refine lv_icmp_ge (tgt := 61) hx hb dX6_meetOf_52 (by decide) (fun c_52 => ?_) (fun c_52 => ?_)
          · have hf := if_t c_52 hf
            refine lv_iload hx hb dX6_meetOf_61 (lv_at hl 0 rfl) ?_
            refine lv_istore (lv' := [(4, .int (s0 + (x_t_count (ix s0)))), (6, .int (s0 + (x_t_count (ix s0)))), (5, .int s0), (0, .ref a_t), (3, .int v3)]) hx hb dX6_meetOf_63 hl (by decide) rfl (fun ls hl => ?_)
            refine lv_goto (tgt := 5) hx hb dX6_meetOf_65 (by decide) ?_
            exact ih5 v3 (s0 + (x_t_count (ix s0))) hf H locs ls hP hD hS (lv_sub hl [3, 4, 0] rfl)
          · have hf := if_f c_52 hf
            refine lv_iload hx hb dX6_meetOf_55 (lv_at hl 0 rfl) ?_
            refine lv_istore_n (lv' := [(3, .int (s0 + (x_t_count (ix s0)))), (6, .int (s0 + (x_t_count (ix s0)))), (5, .int s0), (0, .ref a_t), (4, .int v4)]) hx hb dX6_meetOf_57 rfl hl (by decide) rfl (fun ls hl => ?_)
            refine lv_goto (tgt := 65) hx hb dX6_meetOf_58 (by decide) ?_
            refine lv_goto (tgt := 5) hx hb dX6_meetOf_65 (by decide) ?_
            exact ih5 (s0 + (x_t_count (ix s0))) v4 hf H locs ls hP hD hS (lv_sub hl [3, 0, 4] rfl)
        · have hf := if_f c_43 hf
          refine lv_bipush (v := (-6 : Int32)) hx hb dX6_meetOf_46 (by decide) ?_
          exact fin' _ hf 48 ls H locs dX6_meetOf_48 rfl hP hD hS
      intro v3 v4 hf H locs ls hP hD hS hl
      rw [f_X6_meetOf_5] at hf
      refine lv_iload_n hx hb dX6_meetOf_5 rfl (lv_at hl 1 rfl) ?_
      refine lv_iload hx hb dX6_meetOf_6 (lv_at hl 2 rfl) ?_
      refine lv_icmp_eq (tgt := 68) hx hb dX6_meetOf_8 (by decide) (fun c_8 => ?_) (fun c_8 => ?_)
      · have hf := if_t c_8 hf
        refine lv_iload_n hx hb dX6_meetOf_68 rfl (lv_at hl 1 rfl) ?_
        exact fin' _ hf 69 ls H locs dX6_meetOf_69 rfl hP hD hS
      · have hf := if_f c_8 hf
        refine lv_iload_n hx hb dX6_meetOf_11 rfl (lv_at hl 1 rfl) ?_
        refine lv_iload hx hb dX6_meetOf_12 (lv_at hl 2 rfl) ?_
        refine lv_icmp_ge (tgt := 21) hx hb dX6_meetOf_14 (by decide) (fun c_14 => ?_) (fun c_14 => ?_)
        · have hf := if_t c_14 hf
          refine lv_iload hx hb dX6_meetOf_21 (lv_at hl 2 rfl) ?_
          exact L23 v3 v4 v4 hf H locs ls hP hD hS (lv_sub hl [0, 1, 2] rfl)
        · have hf := if_f c_14 hf
          refine lv_iload_n hx hb dX6_meetOf_17 rfl (lv_at hl 1 rfl) ?_
          refine lv_goto (tgt := 23) hx hb dX6_meetOf_18 (by decide) ?_
          exact L23 v3 v4 v3 hf H locs ls hP hD hS (lv_sub hl [0, 1, 2] rfl)
  have hS : va_S A s.heap s.heap [] := va_S.rf
  obtain ⟨H, hH9⟩ : ∃ z, z = s.heap := ⟨_, rfl⟩
  obtain ⟨locs, hL9⟩ : ∃ z : List Loc, z = [] := ⟨_, rfl⟩
  rw [← hL9]
  rw [← hL9] at hS
  have hP : va_P E.1 vwCl (wd_X6_meetOf E a_t a_t_count x_t_signs w_t_pad x_t_places w_t_page x_t_begins x_t_court x_t_allowed w_t_weight x_t_sights w_t_sight x_t_opens w_t_open w_t_behind w_t_outs w_t_pack w_t_image w_t_isKept x_t_count) H := by rw [hH9]; exact hP
  have hS : va_S A s.heap H locs := by rw [hH9]; exact hS
  suffices hgoal : W p l e (rmm 0 0) s m ([.ref a_t, .int p1, .int p2] : List Value).toArray below meth c H locs 0 0 Q (F0 m 0 ls []) by rw [hH9] at hgoal; exact hgoal
  rw [f_X6_meetOf] at hf
  refine lv_iload_n hx hb dX6_meetOf_0 rfl (lv_at hl 1 rfl) ?_
  refine lv_istore_n (lv' := [(3, .int p1), (0, .ref a_t), (1, .int p1), (2, .int p2)]) hx hb dX6_meetOf_1 rfl hl (by decide) rfl (fun ls hl => ?_)
  refine lv_iload_n hx hb dX6_meetOf_2 rfl (lv_at hl 3 rfl) ?_
  refine lv_istore (lv' := [(4, .int p2), (3, .int p1), (0, .ref a_t), (1, .int p1), (2, .int p2)]) hx hb dX6_meetOf_3 hl (by decide) rfl (fun ls hl => ?_)
  exact L5 FU p1 p2 hf H locs ls hP hD hS (lv_sub hl [2, 1, 0] rfl)
abbrev wd_X6_meet (E : EN) (a_t : Nat) (a_t_page : Nat) (a_t_count : Nat) (a_t_open : Nat) (x_t_signs : Int32) (w_t_pad : Value) (x_t_places : Int32) (x_t_begins : Int32) (x_t_court : Int32) (x_t_allowed : Int32) (w_t_weight : Value) (x_t_sights : Int32) (w_t_sight : Value) (x_t_opens : Int32) (w_t_behind : Value) (w_t_outs : Value) (w_t_pack : Value) (w_t_image : Value) (w_t_isKept : Value) (x_t_page : Nat → Int32) (x_t_count : Nat → Int32) (x_t_open : Nat → Int32) : va_W := [(a_t, e_O 6 [.int x_t_signs, w_t_pad, .int x_t_places, .ref a_t_page, .int x_t_begins, .int x_t_court, .int x_t_allowed, w_t_weight, .int x_t_sights, w_t_sight, .ref a_t_count, .int x_t_opens, .ref a_t_open, w_t_behind, w_t_outs, w_t_pack, w_t_image, w_t_isKept]), (a_t_page, e_I E 40 x_t_page), (a_t_count, e_I E 40 x_t_count), (a_t_open, e_I E 5 x_t_open)]
def f_X6_meet (p1 : Int32) (p2 : Int32) (x_t_places : Int32) (x_t_court : Int32) (x_t_opens : Int32) (x_t_page : Nat → Int32) (x_t_count : Nat → Int32) (x_t_open : Nat → Int32) : Option (Int32 × Int32 × (Nat → Int32) × (Nat → Int32)) :=
  Option.bind (f_X6_isPlace p1 x_t_places) (fun r2 =>
  if r2 = 0 then
    some ((-1 : Int32), x_t_opens, x_t_count, x_t_open)
  else
    Option.bind (f_X6_isPlace p2 x_t_places) (fun r10 =>
    if r10 = 0 then
      some ((-1 : Int32), x_t_opens, x_t_count, x_t_open)
    else
      Option.bind (f_X6_isWhole x_t_places x_t_page) (fun r19 =>
      if r19 = 0 then
        some ((-3 : Int32), x_t_opens, x_t_count, x_t_open)
      else
        Option.bind (f_X6_lay x_t_court x_t_places x_t_count x_t_page x_t_open) (fun r33 =>
        Option.bind (f_X6_meetOf p1 p2 x_t_places r33.2.1) (fun r39 =>
        some (r39, r33.1, r33.2.1, r33.2.2))))))
set_option maxHeartbeats 4000000 in
set_option maxRecDepth 100000 in
theorem c_X6_meet (l : Launch) (E : EN) (a_t a_t_page a_t_count a_t_open : Nat) (x_t_signs : Int32) (w_t_pad : Value) (x_t_places : Int32) (x_t_begins : Int32) (x_t_court : Int32) (x_t_allowed : Int32) (w_t_weight : Value) (x_t_sights : Int32) (w_t_sight : Value) (x_t_opens : Int32) (w_t_behind : Value) (w_t_outs : Value) (w_t_pack : Value) (w_t_image : Value) (w_t_isKept : Value) (x_t_page : Nat → Int32) (x_t_count : Nat → Int32) (x_t_open : Nat → Int32) (p1 : Int32) (p2 : Int32) (res : Int32 × Int32 × (Nat → Int32) × (Nat → Int32)) (hf : f_X6_meet p1 p2 x_t_places x_t_court x_t_opens x_t_page x_t_count x_t_open = some res) : CtI l yX6_meet cX6_meet 3 .int 3 65 E [.ref a_t, .int p1, .int p2] (wd_X6_meet E a_t a_t_page a_t_count a_t_open x_t_signs w_t_pad x_t_places x_t_begins x_t_court x_t_allowed w_t_weight x_t_sights w_t_sight x_t_opens w_t_behind w_t_outs w_t_pack w_t_image w_t_isKept x_t_page x_t_count x_t_open) (wd_X6_meet E a_t a_t_page a_t_count a_t_open x_t_signs w_t_pad x_t_places x_t_begins x_t_court x_t_allowed w_t_weight x_t_sights w_t_sight res.2.1 w_t_behind w_t_outs w_t_pack w_t_image w_t_isKept x_t_page res.2.2.1 res.2.2.2) res.1 := by
  refine CtI.of RX6 (by decide) rfl (Nat.le_of_ble_eq_true rfl) ?_
  intro p e s m below meth c A Q ls X hA hP hD hl fin
  have hx := X.1
  have hb := X.2.1
  have hl : lv_has ls 3 [(0, .ref a_t), (1, .int p1), (2, .int p2)] := hl
  have fin' : ∀ (fr0 : Int32) (fr1 : Int32) (fr2 : (Nat → Int32)) (fr3 : (Nat → Int32)), some (fr0, fr1, fr2, fr3) = some res → ∀ (pc : Nat) (ls : Array Slot) (H : Heap) (locs : List Loc), decode cX6_meet pc = .ok (.ireturn, 1) → narrow .int (.int fr0) = .int fr0 → va_P E.1 vwCl (wd_X6_meet E a_t a_t_page a_t_count a_t_open x_t_signs w_t_pad x_t_places x_t_begins x_t_court x_t_allowed w_t_weight x_t_sights w_t_sight fr1 w_t_behind w_t_outs w_t_pack w_t_image w_t_isKept x_t_page fr2 fr3) H → va_D A (wd_X6_meet E a_t a_t_page a_t_count a_t_open x_t_signs w_t_pad x_t_places x_t_begins x_t_court x_t_allowed w_t_weight x_t_sights w_t_sight fr1 w_t_behind w_t_outs w_t_pack w_t_image w_t_isKept x_t_page fr2 fr3) → va_S A s.heap H locs → W p l e (rmm 3 65) s m ([.ref a_t, .int p1, .int p2] : List Value).toArray below meth c H locs 0 0 Q (F0 m pc ls [.int fr0]) := by
    intro fr0 fr1 fr2 fr3 he
    cases he
    exact fin
  have hS : va_S A s.heap s.heap [] := va_S.rf
  obtain ⟨H, hH9⟩ : ∃ z, z = s.heap := ⟨_, rfl⟩
  obtain ⟨locs, hL9⟩ : ∃ z : List Loc, z = [] := ⟨_, rfl⟩
  rw [← hL9]
  rw [← hL9] at hS
  have hP : va_P E.1 vwCl (wd_X6_meet E a_t a_t_page a_t_count a_t_open x_t_signs w_t_pad x_t_places x_t_begins x_t_court x_t_allowed w_t_weight x_t_sights w_t_sight x_t_opens w_t_behind w_t_outs w_t_pack w_t_image w_t_isKept x_t_page x_t_count x_t_open) H := by rw [hH9]; exact hP
  have hS : va_S A s.heap H locs := by rw [hH9]; exact hS
  suffices hgoal : W p l e (rmm 3 65) s m ([.ref a_t, .int p1, .int p2] : List Value).toArray below meth c H locs 0 0 Q (F0 m 0 ls []) by rw [hH9] at hgoal; exact hgoal
  rw [f_X6_meet] at hf
  refine lv_aload_n hx hb dX6_meet_0 rfl (lv_at hl 0 rfl) ?_
  refine lv_iload_n hx hb dX6_meet_1 rfl (lv_at hl 1 rfl) ?_
  obtain ⟨r2, hc2, hf⟩ := bd_some hf
  refine cV_I X hA hP hD hS hl.1 (c_X6_isPlace l E a_t x_t_signs w_t_pad x_t_places (.ref a_t_page) x_t_begins x_t_court x_t_allowed w_t_weight x_t_sights w_t_sight (.ref a_t_count) x_t_opens (.ref a_t_open) w_t_behind w_t_outs w_t_pack w_t_image w_t_isKept p1 r2 hc2) 1 k_738 mw_X6_isPlace hd_X6_isPlace ⟨Nat.le_of_ble_eq_true rfl, Nat.le_of_ble_eq_true rfl⟩ [0] [1, 2, 3] [3, 0, 1, 2] rfl rfl (wr := [1, 2, 3].filterMap (fun i => (wd_X6_meet E a_t a_t_page a_t_count a_t_open x_t_signs w_t_pad x_t_places x_t_begins x_t_court x_t_allowed w_t_weight x_t_sights w_t_sight x_t_opens w_t_behind w_t_outs w_t_pack w_t_image w_t_isKept x_t_page x_t_count x_t_open)[i]?)) rfl rfl rfl 6 0 rfl rfl rfl rfl rfl (Nat.le_of_ble_eq_true rfl) rfl (ws' := (wd_X6_meet E a_t a_t_page a_t_count a_t_open x_t_signs w_t_pad x_t_places x_t_begins x_t_court x_t_allowed w_t_weight x_t_sights w_t_sight x_t_opens w_t_behind w_t_outs w_t_pack w_t_image w_t_isKept x_t_page x_t_count x_t_open)) rfl ⟨Nat.le_of_ble_eq_true rfl, Nat.le_of_ble_eq_true rfl⟩ dX6_meet_2 (fun H locs hP hD hS => ?_)
  refine lv_if_eq (tgt := 16) hx hb dX6_meet_5 (by decide) (fun c_5 => ?_) (fun c_5 => ?_)
  · have hf := if_t c_5 hf
    refine lv_iconst (v := (-1 : Int32)) hx hb dX6_meet_16 (by decide) ?_
    exact fin' _ _ _ _ hf 17 ls H locs dX6_meet_17 rfl hP hD hS
  · have hf := if_f c_5 hf
    refine lv_aload_n hx hb dX6_meet_8 rfl (lv_at hl 0 rfl) ?_
    refine lv_iload_n hx hb dX6_meet_9 rfl (lv_at hl 2 rfl) ?_
    obtain ⟨r10, hc10, hf⟩ := bd_some hf
    refine cV_I X hA hP hD hS hl.1 (c_X6_isPlace l E a_t x_t_signs w_t_pad x_t_places (.ref a_t_page) x_t_begins x_t_court x_t_allowed w_t_weight x_t_sights w_t_sight (.ref a_t_count) x_t_opens (.ref a_t_open) w_t_behind w_t_outs w_t_pack w_t_image w_t_isKept p2 r10 hc10) 1 k_738 mw_X6_isPlace hd_X6_isPlace ⟨Nat.le_of_ble_eq_true rfl, Nat.le_of_ble_eq_true rfl⟩ [0] [1, 2, 3] [3, 0, 1, 2] rfl rfl (wr := [1, 2, 3].filterMap (fun i => (wd_X6_meet E a_t a_t_page a_t_count a_t_open x_t_signs w_t_pad x_t_places x_t_begins x_t_court x_t_allowed w_t_weight x_t_sights w_t_sight x_t_opens w_t_behind w_t_outs w_t_pack w_t_image w_t_isKept x_t_page x_t_count x_t_open)[i]?)) rfl rfl rfl 6 0 rfl rfl rfl rfl rfl (Nat.le_of_ble_eq_true rfl) rfl (ws' := (wd_X6_meet E a_t a_t_page a_t_count a_t_open x_t_signs w_t_pad x_t_places x_t_begins x_t_court x_t_allowed w_t_weight x_t_sights w_t_sight x_t_opens w_t_behind w_t_outs w_t_pack w_t_image w_t_isKept x_t_page x_t_count x_t_open)) rfl ⟨Nat.le_of_ble_eq_true rfl, Nat.le_of_ble_eq_true rfl⟩ dX6_meet_10 (fun H locs hP hD hS => ?_)
    refine lv_if_ne (tgt := 18) hx hb dX6_meet_13 (by decide) (fun c_13 => ?_) (fun c_13 => ?_)
    · have hf := if_f c_13 hf
      refine lv_aload_n hx hb dX6_meet_18 rfl (lv_at hl 0 rfl) ?_
      obtain ⟨r19, hc19, hf⟩ := bd_some hf
      refine cV_I X hA hP hD hS hl.1 (c_X6_isWhole l E a_t a_t_page x_t_signs w_t_pad x_t_places x_t_begins x_t_court x_t_allowed w_t_weight x_t_sights w_t_sight (.ref a_t_count) x_t_opens (.ref a_t_open) w_t_behind w_t_outs w_t_pack w_t_image w_t_isKept x_t_page r19 hc19) 0 k_749 mw_X6_isWhole hd_X6_isWhole ⟨Nat.le_of_ble_eq_true rfl, Nat.le_of_ble_eq_true rfl⟩ [0, 1] [2, 3] [2, 3, 0, 1] rfl rfl (wr := [2, 3].filterMap (fun i => (wd_X6_meet E a_t a_t_page a_t_count a_t_open x_t_signs w_t_pad x_t_places x_t_begins x_t_court x_t_allowed w_t_weight x_t_sights w_t_sight x_t_opens w_t_behind w_t_outs w_t_pack w_t_image w_t_isKept x_t_page x_t_count x_t_open)[i]?)) rfl rfl rfl 6 0 rfl rfl rfl rfl rfl (Nat.le_of_ble_eq_true rfl) rfl (ws' := (wd_X6_meet E a_t a_t_page a_t_count a_t_open x_t_signs w_t_pad x_t_places x_t_begins x_t_court x_t_allowed w_t_weight x_t_sights w_t_sight x_t_opens w_t_behind w_t_outs w_t_pack w_t_image w_t_isKept x_t_page x_t_count x_t_open)) rfl ⟨Nat.le_of_ble_eq_true rfl, Nat.le_of_ble_eq_true rfl⟩ dX6_meet_19 (fun H locs hP hD hS => ?_)
      refine lv_if_ne (tgt := 28) hx hb dX6_meet_22 (by decide) (fun c_22 => ?_) (fun c_22 => ?_)
      · have hf := if_f c_22 hf
        refine lv_aload_n hx hb dX6_meet_28 rfl (lv_at hl 0 rfl) ?_
        refine lv_aload_n hx hb dX6_meet_29 rfl (lv_at hl 0 rfl) ?_
        refine gf_X6_23 X hP 0 rfl rfl dX6_meet_30 ?_
        obtain ⟨r33, hc33, hf⟩ := bd_some hf
        refine cV_V X hA hP hD hS hl.1 (c_X6_lay l E a_t a_t_count a_t_page a_t_open x_t_signs w_t_pad x_t_places x_t_begins x_t_court x_t_allowed w_t_weight x_t_sights w_t_sight x_t_opens w_t_behind w_t_outs w_t_pack w_t_image w_t_isKept x_t_count x_t_page x_t_open x_t_court r33 hc33) 1 k_757 mw_X6_lay hd_X6_lay ⟨Nat.le_of_ble_eq_true rfl, Nat.le_of_ble_eq_true rfl⟩ [0, 2, 1, 3] [] [0, 2, 1, 3] rfl rfl (wr := []) rfl rfl rfl 6 0 rfl rfl rfl rfl rfl (Nat.le_of_ble_eq_true rfl) rfl (ws' := (wd_X6_meet E a_t a_t_page a_t_count a_t_open x_t_signs w_t_pad x_t_places x_t_begins x_t_court x_t_allowed w_t_weight x_t_sights w_t_sight r33.1 w_t_behind w_t_outs w_t_pack w_t_image w_t_isKept x_t_page r33.2.1 r33.2.2)) rfl ⟨Nat.le_of_ble_eq_true rfl, Nat.le_of_ble_eq_true rfl⟩ dX6_meet_33 (fun H locs hP hD hS => ?_)
        refine lv_aload_n hx hb dX6_meet_36 rfl (lv_at hl 0 rfl) ?_
        refine lv_iload_n hx hb dX6_meet_37 rfl (lv_at hl 1 rfl) ?_
        refine lv_iload_n hx hb dX6_meet_38 rfl (lv_at hl 2 rfl) ?_
        obtain ⟨r39, hc39, hf⟩ := bd_some hf
        refine cV_I X hA hP hD hS hl.1 (c_X6_meetOf l E a_t a_t_count x_t_signs w_t_pad x_t_places (.ref a_t_page) x_t_begins x_t_court x_t_allowed w_t_weight x_t_sights w_t_sight r33.1 (.ref a_t_open) w_t_behind w_t_outs w_t_pack w_t_image w_t_isKept r33.2.1 p1 p2 r39 hc39) 2 k_777 mw_X6_meetOf hd_X6_meetOf ⟨Nat.le_of_ble_eq_true rfl, Nat.le_of_ble_eq_true rfl⟩ [0, 2] [1, 3] [2, 0, 3, 1] rfl rfl (wr := [1, 3].filterMap (fun i => (wd_X6_meet E a_t a_t_page a_t_count a_t_open x_t_signs w_t_pad x_t_places x_t_begins x_t_court x_t_allowed w_t_weight x_t_sights w_t_sight r33.1 w_t_behind w_t_outs w_t_pack w_t_image w_t_isKept x_t_page r33.2.1 r33.2.2)[i]?)) rfl rfl rfl 6 0 rfl rfl rfl rfl rfl (Nat.le_of_ble_eq_true rfl) rfl (ws' := (wd_X6_meet E a_t a_t_page a_t_count a_t_open x_t_signs w_t_pad x_t_places x_t_begins x_t_court x_t_allowed w_t_weight x_t_sights w_t_sight r33.1 w_t_behind w_t_outs w_t_pack w_t_image w_t_isKept x_t_page r33.2.1 r33.2.2)) rfl ⟨Nat.le_of_ble_eq_true rfl, Nat.le_of_ble_eq_true rfl⟩ dX6_meet_39 (fun H locs hP hD hS => ?_)
        exact fin' _ _ _ _ hf 42 ls H locs dX6_meet_42 rfl hP hD hS
      · have hf := if_t c_22 hf
        refine lv_bipush (v := (-3 : Int32)) hx hb dX6_meet_25 (by decide) ?_
        exact fin' _ _ _ _ hf 27 ls H locs dX6_meet_27 rfl hP hD hS
    · have hf := if_t c_13 hf
      refine lv_iconst (v := (-1 : Int32)) hx hb dX6_meet_16 (by decide) ?_
      exact fin' _ _ _ _ hf 17 ls H locs dX6_meet_17 rfl hP hD hS
abbrev wd_X6_comesTo (E : EN) (a_t : Nat) (a_t_count : Nat) (x_t_signs : Int32) (w_t_pad : Value) (x_t_places : Int32) (w_t_page : Value) (x_t_begins : Int32) (x_t_court : Int32) (x_t_allowed : Int32) (w_t_weight : Value) (x_t_sights : Int32) (w_t_sight : Value) (x_t_opens : Int32) (w_t_open : Value) (w_t_behind : Value) (w_t_outs : Value) (w_t_pack : Value) (w_t_image : Value) (w_t_isKept : Value) (x_t_count : Nat → Int32) : va_W := [(a_t, e_O 6 [.int x_t_signs, w_t_pad, .int x_t_places, w_t_page, .int x_t_begins, .int x_t_court, .int x_t_allowed, w_t_weight, .int x_t_sights, w_t_sight, .ref a_t_count, .int x_t_opens, w_t_open, w_t_behind, w_t_outs, w_t_pack, w_t_image, w_t_isKept]), (a_t_count, e_I E 40 x_t_count)]
def f_X6_comesTo_2 (p2 : Int32) (x_t_places : Int32) (x_t_count : Nat → Int32)  : Nat → Int32 → Option (Int32)
  | 0, _ => none
  | n_ + 1, v3 =>
    if p2 ≤ v3 then
      if v3 = p2 then
        some (1 : Int32)
      else
        some (0 : Int32)
    else
      ck (inB v3 40) (
      if x_t_places ≤ (v3 + (x_t_count (ix v3))) then
        if v3 = p2 then
          some (1 : Int32)
        else
          some (0 : Int32)
      else
        f_X6_comesTo_2 p2 x_t_places x_t_count n_ (v3 + (x_t_count (ix v3))))
def f_X6_comesTo (p1 : Int32) (p2 : Int32) (x_t_places : Int32) (x_t_count : Nat → Int32) : Option (Int32) :=
  f_X6_comesTo_2 p2 x_t_places x_t_count FU p1
set_option maxHeartbeats 4000000 in
set_option maxRecDepth 100000 in
theorem c_X6_comesTo (l : Launch) (E : EN) (a_t a_t_count : Nat) (x_t_signs : Int32) (w_t_pad : Value) (x_t_places : Int32) (w_t_page : Value) (x_t_begins : Int32) (x_t_court : Int32) (x_t_allowed : Int32) (w_t_weight : Value) (x_t_sights : Int32) (w_t_sight : Value) (x_t_opens : Int32) (w_t_open : Value) (w_t_behind : Value) (w_t_outs : Value) (w_t_pack : Value) (w_t_image : Value) (w_t_isKept : Value) (x_t_count : Nat → Int32) (p1 : Int32) (p2 : Int32) (res : Int32) (hf : f_X6_comesTo p1 p2 x_t_places x_t_count = some res) : CtI l yX6_comesTo cX6_comesTo 4 .boolean 0 0 E [.ref a_t, .int p1, .int p2] (wd_X6_comesTo E a_t a_t_count x_t_signs w_t_pad x_t_places w_t_page x_t_begins x_t_court x_t_allowed w_t_weight x_t_sights w_t_sight x_t_opens w_t_open w_t_behind w_t_outs w_t_pack w_t_image w_t_isKept x_t_count) (wd_X6_comesTo E a_t a_t_count x_t_signs w_t_pad x_t_places w_t_page x_t_begins x_t_court x_t_allowed w_t_weight x_t_sights w_t_sight x_t_opens w_t_open w_t_behind w_t_outs w_t_pack w_t_image w_t_isKept x_t_count) res := by
  refine CtI.of RX6 (by decide) rfl (Nat.le_of_ble_eq_true rfl) ?_
  intro p e s m below meth c A Q ls X hA hP hD hl fin
  have hx := X.1
  have hb := X.2.1
  have hl : lv_has ls 4 [(0, .ref a_t), (1, .int p1), (2, .int p2)] := hl
  have fin' : ∀ (fr0 : Int32), some fr0 = some res → ∀ (pc : Nat) (ls : Array Slot) (H : Heap) (locs : List Loc), decode cX6_comesTo pc = .ok (.ireturn, 1) → narrow .boolean (.int fr0) = .int fr0 → va_P E.1 vwCl (wd_X6_comesTo E a_t a_t_count x_t_signs w_t_pad x_t_places w_t_page x_t_begins x_t_court x_t_allowed w_t_weight x_t_sights w_t_sight x_t_opens w_t_open w_t_behind w_t_outs w_t_pack w_t_image w_t_isKept x_t_count) H → va_D A (wd_X6_comesTo E a_t a_t_count x_t_signs w_t_pad x_t_places w_t_page x_t_begins x_t_court x_t_allowed w_t_weight x_t_sights w_t_sight x_t_opens w_t_open w_t_behind w_t_outs w_t_pack w_t_image w_t_isKept x_t_count) → va_S A s.heap H locs → W p l e (rmm 0 0) s m ([.ref a_t, .int p1, .int p2] : List Value).toArray below meth c H locs 0 0 Q (F0 m pc ls [.int fr0]) := by
    intro fr0 he
    cases he
    exact fin
  have L2 : ∀ (n2 : Nat) (v3 : Int32), f_X6_comesTo_2 p2 x_t_places x_t_count n2 v3 = some res → ∀ (H : Heap) (locs : List Loc) (ls : Array Slot), va_P E.1 vwCl (wd_X6_comesTo E a_t a_t_count x_t_signs w_t_pad x_t_places w_t_page x_t_begins x_t_court x_t_allowed w_t_weight x_t_sights w_t_sight x_t_opens w_t_open w_t_behind w_t_outs w_t_pack w_t_image w_t_isKept x_t_count) H → va_D A (wd_X6_comesTo E a_t a_t_count x_t_signs w_t_pad x_t_places w_t_page x_t_begins x_t_court x_t_allowed w_t_weight x_t_sights w_t_sight x_t_opens w_t_open w_t_behind w_t_outs w_t_pack w_t_image w_t_isKept x_t_count) → va_S A s.heap H locs → lv_has ls 4 [(0, .ref a_t), (2, .int p2), (3, .int v3)] → W p l e (rmm 0 0) s m ([.ref a_t, .int p1, .int p2] : List Value).toArray below meth c H locs 0 0 Q (F0 m 2 ls []) := by
    intro n2
    induction n2 with
    | zero => intro v3 hf; rw [f_X6_comesTo_2] at hf; cases hf
    | succ n2 ih2 =>
      intro v3 hf H locs ls hP hD hS hl
      rw [f_X6_comesTo_2] at hf
      refine lv_iload_n hx hb dX6_comesTo_2 rfl (lv_at hl 2 rfl) ?_
      refine lv_iload_n hx hb dX6_comesTo_3 rfl (lv_at hl 1 rfl) ?_
      refine lv_icmp_ge (tgt := 34) hx hb dX6_comesTo_4 (by decide) (fun c_4 => ?_) (fun c_4 => ?_)
      · have hf := if_t c_4 hf
        refine lv_iload_n hx hb dX6_comesTo_34 rfl (lv_at hl 2 rfl) ?_
        refine lv_iload_n hx hb dX6_comesTo_35 rfl (lv_at hl 1 rfl) ?_
        refine lv_icmp_ne (tgt := 43) hx hb dX6_comesTo_36 (by decide) (fun c_36 => ?_) (fun c_36 => ?_)
        · have hf := if_f c_36 hf
          refine lv_iconst (v := (0 : Int32)) hx hb dX6_comesTo_43 (by decide) ?_
          exact fin' _ hf 44 ls H locs dX6_comesTo_44 rfl hP hD hS
        · have hf := if_t c_36 hf
          refine lv_iconst (v := (1 : Int32)) hx hb dX6_comesTo_39 (by decide) ?_
          refine lv_goto (tgt := 44) hx hb dX6_comesTo_40 (by decide) ?_
          exact fin' _ hf 44 ls H locs dX6_comesTo_44 rfl hP hD hS
      · have hf := if_f c_4 hf
        refine lv_iload_n hx hb dX6_comesTo_7 rfl (lv_at hl 2 rfl) ?_
        refine lv_aload_n hx hb dX6_comesTo_8 rfl (lv_at hl 0 rfl) ?_
        refine gf_X6_35 X hP 0 rfl rfl dX6_comesTo_9 ?_
        refine lv_iload_n hx hb dX6_comesTo_12 rfl (lv_at hl 2 rfl) ?_
        obtain ⟨hi13, hf⟩ := ck_some hf
        refine r_iald X hP 1 rfl hi13 dX6_comesTo_13 ?_
        refine lv_iadd hx hb dX6_comesTo_14 ?_
        refine lv_aload_n hx hb dX6_comesTo_15 rfl (lv_at hl 0 rfl) ?_
        refine gf_X6_13 X hP 0 rfl rfl dX6_comesTo_16 ?_
        refine lv_icmp_ge (tgt := 34) hx hb dX6_comesTo_19 (by decide) (fun c_19 => ?_) (fun c_19 => ?_)
        · have hf := if_t c_19 hf
          refine lv_iload_n hx hb dX6_comesTo_34 rfl (lv_at hl 2 rfl) ?_
          refine lv_iload_n hx hb dX6_comesTo_35 rfl (lv_at hl 1 rfl) ?_
          refine lv_icmp_ne (tgt := 43) hx hb dX6_comesTo_36 (by decide) (fun c_36 => ?_) (fun c_36 => ?_)
          · have hf := if_f c_36 hf
            refine lv_iconst (v := (0 : Int32)) hx hb dX6_comesTo_43 (by decide) ?_
            exact fin' _ hf 44 ls H locs dX6_comesTo_44 rfl hP hD hS
          · have hf := if_t c_36 hf
            refine lv_iconst (v := (1 : Int32)) hx hb dX6_comesTo_39 (by decide) ?_
            refine lv_goto (tgt := 44) hx hb dX6_comesTo_40 (by decide) ?_
            exact fin' _ hf 44 ls H locs dX6_comesTo_44 rfl hP hD hS
        · have hf := if_f c_19 hf
          refine lv_iload_n hx hb dX6_comesTo_22 rfl (lv_at hl 2 rfl) ?_
          refine lv_aload_n hx hb dX6_comesTo_23 rfl (lv_at hl 0 rfl) ?_
          refine gf_X6_35 X hP 0 rfl rfl dX6_comesTo_24 ?_
          refine lv_iload_n hx hb dX6_comesTo_27 rfl (lv_at hl 2 rfl) ?_
          refine r_iald X hP 1 rfl hi13 dX6_comesTo_28 ?_
          refine lv_iadd hx hb dX6_comesTo_29 ?_
          refine lv_istore_n (lv' := [(3, .int (v3 + (x_t_count (ix v3)))), (0, .ref a_t), (2, .int p2)]) hx hb dX6_comesTo_30 rfl hl (by decide) rfl (fun ls hl => ?_)
          refine lv_goto (tgt := 2) hx hb dX6_comesTo_31 (by decide) ?_
          exact ih2 (v3 + (x_t_count (ix v3))) hf H locs ls hP hD hS (lv_sub hl [1, 2, 0] rfl)
  have hS : va_S A s.heap s.heap [] := va_S.rf
  obtain ⟨H, hH9⟩ : ∃ z, z = s.heap := ⟨_, rfl⟩
  obtain ⟨locs, hL9⟩ : ∃ z : List Loc, z = [] := ⟨_, rfl⟩
  rw [← hL9]
  rw [← hL9] at hS
  have hP : va_P E.1 vwCl (wd_X6_comesTo E a_t a_t_count x_t_signs w_t_pad x_t_places w_t_page x_t_begins x_t_court x_t_allowed w_t_weight x_t_sights w_t_sight x_t_opens w_t_open w_t_behind w_t_outs w_t_pack w_t_image w_t_isKept x_t_count) H := by rw [hH9]; exact hP
  have hS : va_S A s.heap H locs := by rw [hH9]; exact hS
  suffices hgoal : W p l e (rmm 0 0) s m ([.ref a_t, .int p1, .int p2] : List Value).toArray below meth c H locs 0 0 Q (F0 m 0 ls []) by rw [hH9] at hgoal; exact hgoal
  rw [f_X6_comesTo] at hf
  refine lv_iload_n hx hb dX6_comesTo_0 rfl (lv_at hl 1 rfl) ?_
  refine lv_istore_n (lv' := [(3, .int p1), (0, .ref a_t), (1, .int p1), (2, .int p2)]) hx hb dX6_comesTo_1 rfl hl (by decide) rfl (fun ls hl => ?_)
  exact L2 FU p1 hf H locs ls hP hD hS (lv_sub hl [1, 3, 0] rfl)
abbrev wd_X6_isPassed (E : EN) (a_t : Nat) (a_t_count : Nat) (x_t_signs : Int32) (w_t_pad : Value) (x_t_places : Int32) (w_t_page : Value) (x_t_begins : Int32) (x_t_court : Int32) (x_t_allowed : Int32) (w_t_weight : Value) (x_t_sights : Int32) (w_t_sight : Value) (x_t_opens : Int32) (w_t_open : Value) (w_t_behind : Value) (w_t_outs : Value) (w_t_pack : Value) (w_t_image : Value) (w_t_isKept : Value) (x_t_count : Nat → Int32) : va_W := [(a_t, e_O 6 [.int x_t_signs, w_t_pad, .int x_t_places, w_t_page, .int x_t_begins, .int x_t_court, .int x_t_allowed, w_t_weight, .int x_t_sights, w_t_sight, .ref a_t_count, .int x_t_opens, w_t_open, w_t_behind, w_t_outs, w_t_pack, w_t_image, w_t_isKept]), (a_t_count, e_I E 40 x_t_count)]
def f_X6_isPassed_4 (p1 : Int32) (x_t_places : Int32) (x_t_begins : Int32) (x_t_count : Nat → Int32)  : Nat → Int32 → Int32 → Option (Int32)
  | 0, _, _ => none
  | n_ + 1, v2, v3 =>
    if x_t_begins ≤ v3 then
      ck (isB v2) (
      some v2)
    else
      if v2 = 0 then
        f_X6_isPassed_4 p1 x_t_places x_t_begins x_t_count n_ (0 : Int32) (v3 + (1 : Int32))
      else
        Option.bind (f_X6_comesTo v3 p1 x_t_places x_t_count) (fun r19 =>
        if r19 = 0 then
          f_X6_isPassed_4 p1 x_t_places x_t_begins x_t_count n_ (0 : Int32) (v3 + (1 : Int32))
        else
          f_X6_isPassed_4 p1 x_t_places x_t_begins x_t_count n_ (1 : Int32) (v3 + (1 : Int32)))
def f_X6_isPassed (p1 : Int32) (x_t_places : Int32) (x_t_begins : Int32) (x_t_count : Nat → Int32) : Option (Int32) :=
  f_X6_isPassed_4 p1 x_t_places x_t_begins x_t_count FU (1 : Int32) (0 : Int32)
set_option maxHeartbeats 4000000 in
set_option maxRecDepth 100000 in
theorem c_X6_isPassed (l : Launch) (E : EN) (a_t a_t_count : Nat) (x_t_signs : Int32) (w_t_pad : Value) (x_t_places : Int32) (w_t_page : Value) (x_t_begins : Int32) (x_t_court : Int32) (x_t_allowed : Int32) (w_t_weight : Value) (x_t_sights : Int32) (w_t_sight : Value) (x_t_opens : Int32) (w_t_open : Value) (w_t_behind : Value) (w_t_outs : Value) (w_t_pack : Value) (w_t_image : Value) (w_t_isKept : Value) (x_t_count : Nat → Int32) (p1 : Int32) (res : Int32) (hf : f_X6_isPassed p1 x_t_places x_t_begins x_t_count = some res) : CtI l yX6_isPassed cX6_isPassed 4 .boolean 1 23 E [.ref a_t, .int p1] (wd_X6_isPassed E a_t a_t_count x_t_signs w_t_pad x_t_places w_t_page x_t_begins x_t_court x_t_allowed w_t_weight x_t_sights w_t_sight x_t_opens w_t_open w_t_behind w_t_outs w_t_pack w_t_image w_t_isKept x_t_count) (wd_X6_isPassed E a_t a_t_count x_t_signs w_t_pad x_t_places w_t_page x_t_begins x_t_court x_t_allowed w_t_weight x_t_sights w_t_sight x_t_opens w_t_open w_t_behind w_t_outs w_t_pack w_t_image w_t_isKept x_t_count) res := by
  refine CtI.of RX6 (by decide) rfl (Nat.le_of_ble_eq_true rfl) ?_
  intro p e s m below meth c A Q ls X hA hP hD hl fin
  have hx := X.1
  have hb := X.2.1
  have hl : lv_has ls 4 [(0, .ref a_t), (1, .int p1)] := hl
  have fin' : ∀ (fr0 : Int32), some fr0 = some res → ∀ (pc : Nat) (ls : Array Slot) (H : Heap) (locs : List Loc), decode cX6_isPassed pc = .ok (.ireturn, 1) → narrow .boolean (.int fr0) = .int fr0 → va_P E.1 vwCl (wd_X6_isPassed E a_t a_t_count x_t_signs w_t_pad x_t_places w_t_page x_t_begins x_t_court x_t_allowed w_t_weight x_t_sights w_t_sight x_t_opens w_t_open w_t_behind w_t_outs w_t_pack w_t_image w_t_isKept x_t_count) H → va_D A (wd_X6_isPassed E a_t a_t_count x_t_signs w_t_pad x_t_places w_t_page x_t_begins x_t_court x_t_allowed w_t_weight x_t_sights w_t_sight x_t_opens w_t_open w_t_behind w_t_outs w_t_pack w_t_image w_t_isKept x_t_count) → va_S A s.heap H locs → W p l e (rmm 1 23) s m ([.ref a_t, .int p1] : List Value).toArray below meth c H locs 0 0 Q (F0 m pc ls [.int fr0]) := by
    intro fr0 he
    cases he
    exact fin
  have L4 : ∀ (n4 : Nat) (v2 : Int32) (v3 : Int32), f_X6_isPassed_4 p1 x_t_places x_t_begins x_t_count n4 v2 v3 = some res → ∀ (H : Heap) (locs : List Loc) (ls : Array Slot), va_P E.1 vwCl (wd_X6_isPassed E a_t a_t_count x_t_signs w_t_pad x_t_places w_t_page x_t_begins x_t_court x_t_allowed w_t_weight x_t_sights w_t_sight x_t_opens w_t_open w_t_behind w_t_outs w_t_pack w_t_image w_t_isKept x_t_count) H → va_D A (wd_X6_isPassed E a_t a_t_count x_t_signs w_t_pad x_t_places w_t_page x_t_begins x_t_court x_t_allowed w_t_weight x_t_sights w_t_sight x_t_opens w_t_open w_t_behind w_t_outs w_t_pack w_t_image w_t_isKept x_t_count) → va_S A s.heap H locs → lv_has ls 4 [(0, .ref a_t), (1, .int p1), (2, .int v2), (3, .int v3)] → W p l e (rmm 1 23) s m ([.ref a_t, .int p1] : List Value).toArray below meth c H locs 0 0 Q (F0 m 4 ls []) := by
    intro n4
    induction n4 with
    | zero => intro v2 v3 hf; rw [f_X6_isPassed_4] at hf; cases hf
    | succ n4 ih4 =>
      intro v2 v3 hf H locs ls hP hD hS hl
      rw [f_X6_isPassed_4] at hf
      refine lv_iload_n hx hb dX6_isPassed_4 rfl (lv_at hl 3 rfl) ?_
      refine lv_aload_n hx hb dX6_isPassed_5 rfl (lv_at hl 0 rfl) ?_
      refine gf_X6_20 X hP 0 rfl rfl dX6_isPassed_6 ?_
      refine lv_icmp_ge (tgt := 37) hx hb dX6_isPassed_9 (by decide) (fun c_9 => ?_) (fun c_9 => ?_)
      · have hf := if_t c_9 hf
        refine lv_iload_n hx hb dX6_isPassed_37 rfl (lv_at hl 2 rfl) ?_
        obtain ⟨hz38, hf⟩ := ck_some hf
        exact fin' _ hf 38 ls H locs dX6_isPassed_38 (isB_nar hz38) hP hD hS
      · have hf := if_f c_9 hf
        refine lv_iload_n hx hb dX6_isPassed_12 rfl (lv_at hl 2 rfl) ?_
        refine lv_if_eq (tgt := 29) hx hb dX6_isPassed_13 (by decide) (fun c_13 => ?_) (fun c_13 => ?_)
        · have hf := if_t c_13 hf
          refine lv_iconst (v := (0 : Int32)) hx hb dX6_isPassed_29 (by decide) ?_
          refine lv_istore_n (lv' := [(2, .int (0 : Int32)), (0, .ref a_t), (1, .int p1), (3, .int v3)]) hx hb dX6_isPassed_30 rfl hl (by decide) rfl (fun ls hl => ?_)
          refine lv_iinc (v := (v3 + (1 : Int32))) (lv' := [(3, .int (v3 + (1 : Int32))), (2, .int (0 : Int32)), (0, .ref a_t), (1, .int p1)]) hx hb dX6_isPassed_31 hl (k := 3) rfl rfl (by decide) rfl (fun ls hl => ?_)
          refine lv_goto (tgt := 4) hx hb dX6_isPassed_34 (by decide) ?_
          exact ih4 (0 : Int32) (v3 + (1 : Int32)) hf H locs ls hP hD hS (lv_sub hl [2, 3, 1, 0] rfl)
        · have hf := if_f c_13 hf
          refine lv_aload_n hx hb dX6_isPassed_16 rfl (lv_at hl 0 rfl) ?_
          refine lv_iload_n hx hb dX6_isPassed_17 rfl (lv_at hl 3 rfl) ?_
          refine lv_iload_n hx hb dX6_isPassed_18 rfl (lv_at hl 1 rfl) ?_
          obtain ⟨r19, hc19, hf⟩ := bd_some hf
          refine cV_I X hA hP hD hS hl.1 (c_X6_comesTo l E a_t a_t_count x_t_signs w_t_pad x_t_places w_t_page x_t_begins x_t_court x_t_allowed w_t_weight x_t_sights w_t_sight x_t_opens w_t_open w_t_behind w_t_outs w_t_pack w_t_image w_t_isKept x_t_count v3 p1 r19 hc19) 2 k_789 mw_X6_comesTo hd_X6_comesTo ⟨Nat.le_of_ble_eq_true rfl, Nat.le_of_ble_eq_true rfl⟩ [0, 1] [] [0, 1] rfl rfl (wr := []) rfl rfl rfl 6 0 rfl rfl rfl rfl rfl (Nat.le_of_ble_eq_true rfl) rfl (ws' := (wd_X6_isPassed E a_t a_t_count x_t_signs w_t_pad x_t_places w_t_page x_t_begins x_t_court x_t_allowed w_t_weight x_t_sights w_t_sight x_t_opens w_t_open w_t_behind w_t_outs w_t_pack w_t_image w_t_isKept x_t_count)) rfl ⟨Nat.le_of_ble_eq_true rfl, Nat.le_of_ble_eq_true rfl⟩ dX6_isPassed_19 (fun H locs hP hD hS => ?_)
          refine lv_if_eq (tgt := 29) hx hb dX6_isPassed_22 (by decide) (fun c_22 => ?_) (fun c_22 => ?_)
          · have hf := if_t c_22 hf
            refine lv_iconst (v := (0 : Int32)) hx hb dX6_isPassed_29 (by decide) ?_
            refine lv_istore_n (lv' := [(2, .int (0 : Int32)), (0, .ref a_t), (1, .int p1), (3, .int v3)]) hx hb dX6_isPassed_30 rfl hl (by decide) rfl (fun ls hl => ?_)
            refine lv_iinc (v := (v3 + (1 : Int32))) (lv' := [(3, .int (v3 + (1 : Int32))), (2, .int (0 : Int32)), (0, .ref a_t), (1, .int p1)]) hx hb dX6_isPassed_31 hl (k := 3) rfl rfl (by decide) rfl (fun ls hl => ?_)
            refine lv_goto (tgt := 4) hx hb dX6_isPassed_34 (by decide) ?_
            exact ih4 (0 : Int32) (v3 + (1 : Int32)) hf H locs ls hP hD hS (lv_sub hl [2, 3, 1, 0] rfl)
          · have hf := if_f c_22 hf
            refine lv_iconst (v := (1 : Int32)) hx hb dX6_isPassed_25 (by decide) ?_
            refine lv_goto (tgt := 30) hx hb dX6_isPassed_26 (by decide) ?_
            refine lv_istore_n (lv' := [(2, .int (1 : Int32)), (0, .ref a_t), (1, .int p1), (3, .int v3)]) hx hb dX6_isPassed_30 rfl hl (by decide) rfl (fun ls hl => ?_)
            refine lv_iinc (v := (v3 + (1 : Int32))) (lv' := [(3, .int (v3 + (1 : Int32))), (2, .int (1 : Int32)), (0, .ref a_t), (1, .int p1)]) hx hb dX6_isPassed_31 hl (k := 3) rfl rfl (by decide) rfl (fun ls hl => ?_)
            refine lv_goto (tgt := 4) hx hb dX6_isPassed_34 (by decide) ?_
            exact ih4 (1 : Int32) (v3 + (1 : Int32)) hf H locs ls hP hD hS (lv_sub hl [2, 3, 1, 0] rfl)
  have hS : va_S A s.heap s.heap [] := va_S.rf
  obtain ⟨H, hH9⟩ : ∃ z, z = s.heap := ⟨_, rfl⟩
  obtain ⟨locs, hL9⟩ : ∃ z : List Loc, z = [] := ⟨_, rfl⟩
  rw [← hL9]
  rw [← hL9] at hS
  have hP : va_P E.1 vwCl (wd_X6_isPassed E a_t a_t_count x_t_signs w_t_pad x_t_places w_t_page x_t_begins x_t_court x_t_allowed w_t_weight x_t_sights w_t_sight x_t_opens w_t_open w_t_behind w_t_outs w_t_pack w_t_image w_t_isKept x_t_count) H := by rw [hH9]; exact hP
  have hS : va_S A s.heap H locs := by rw [hH9]; exact hS
  suffices hgoal : W p l e (rmm 1 23) s m ([.ref a_t, .int p1] : List Value).toArray below meth c H locs 0 0 Q (F0 m 0 ls []) by rw [hH9] at hgoal; exact hgoal
  rw [f_X6_isPassed] at hf
  refine lv_iconst (v := (1 : Int32)) hx hb dX6_isPassed_0 (by decide) ?_
  refine lv_istore_n (lv' := [(2, .int (1 : Int32)), (0, .ref a_t), (1, .int p1)]) hx hb dX6_isPassed_1 rfl hl (by decide) rfl (fun ls hl => ?_)
  refine lv_iconst (v := (0 : Int32)) hx hb dX6_isPassed_2 (by decide) ?_
  refine lv_istore_n (lv' := [(3, .int (0 : Int32)), (2, .int (1 : Int32)), (0, .ref a_t), (1, .int p1)]) hx hb dX6_isPassed_3 rfl hl (by decide) rfl (fun ls hl => ?_)
  exact L4 FU (1 : Int32) (0 : Int32) hf H locs ls hP hD hS (lv_sub hl [2, 3, 1, 0] rfl)
abbrev wd_X6_pass (E : EN) (a_t : Nat) (a_t_page : Nat) (a_t_count : Nat) (a_t_open : Nat) (x_t_signs : Int32) (w_t_pad : Value) (x_t_places : Int32) (x_t_begins : Int32) (x_t_court : Int32) (x_t_allowed : Int32) (w_t_weight : Value) (x_t_sights : Int32) (w_t_sight : Value) (x_t_opens : Int32) (w_t_behind : Value) (w_t_outs : Value) (w_t_pack : Value) (w_t_image : Value) (w_t_isKept : Value) (x_t_page : Nat → Int32) (x_t_count : Nat → Int32) (x_t_open : Nat → Int32) : va_W := [(a_t, e_O 6 [.int x_t_signs, w_t_pad, .int x_t_places, .ref a_t_page, .int x_t_begins, .int x_t_court, .int x_t_allowed, w_t_weight, .int x_t_sights, w_t_sight, .ref a_t_count, .int x_t_opens, .ref a_t_open, w_t_behind, w_t_outs, w_t_pack, w_t_image, w_t_isKept]), (a_t_page, e_I E 40 x_t_page), (a_t_count, e_I E 40 x_t_count), (a_t_open, e_I E 5 x_t_open)]
def f_X6_pass_22 (p1 : Int32) (x_t_places : Int32) (x_t_begins : Int32)  : Nat → Int32 → Int32 → Int32 → (Nat → Int32) → (Nat → Int32) → Option (Int32 × Int32 × (Nat → Int32) × (Nat → Int32))
  | 0, _, _, _, _, _ => none
  | n_ + 1, v2, v3, m_t_opens, m_t_count, m_t_open =>
    if x_t_places ≤ v3 then
      if p1 = (-1 : Int32) then
        some (v2, m_t_opens, m_t_count, m_t_open)
      else
        some ((-6 : Int32), m_t_opens, m_t_count, m_t_open)
    else
      Option.bind (f_X6_isPassed v3 x_t_places x_t_begins m_t_count) (fun r32 =>
      if r32 = 0 then
        f_X6_pass_22 p1 x_t_places x_t_begins n_ v2 (v3 + (1 : Int32)) m_t_opens m_t_count m_t_open
      else
        if v2 = p1 then
          some (v3, m_t_opens, m_t_count, m_t_open)
        else
          f_X6_pass_22 p1 x_t_places x_t_begins n_ (v2 + (1 : Int32)) (v3 + (1 : Int32)) m_t_opens m_t_count m_t_open)
def f_X6_pass (p1 : Int32) (x_t_places : Int32) (x_t_begins : Int32) (x_t_court : Int32) (x_t_opens : Int32) (x_t_page : Nat → Int32) (x_t_count : Nat → Int32) (x_t_open : Nat → Int32) : Option (Int32 × Int32 × (Nat → Int32) × (Nat → Int32)) :=
  Option.bind (f_X6_isWhole x_t_places x_t_page) (fun r1 =>
  if r1 = 0 then
    some ((-3 : Int32), x_t_opens, x_t_count, x_t_open)
  else
    Option.bind (f_X6_lay x_t_court x_t_places x_t_count x_t_page x_t_open) (fun r15 =>
    f_X6_pass_22 p1 x_t_places x_t_begins FU (0 : Int32) (0 : Int32) r15.1 r15.2.1 r15.2.2))
set_option maxHeartbeats 4000000 in
set_option maxRecDepth 100000 in
theorem c_X6_pass (l : Launch) (E : EN) (a_t a_t_page a_t_count a_t_open : Nat) (x_t_signs : Int32) (w_t_pad : Value) (x_t_places : Int32) (x_t_begins : Int32) (x_t_court : Int32) (x_t_allowed : Int32) (w_t_weight : Value) (x_t_sights : Int32) (w_t_sight : Value) (x_t_opens : Int32) (w_t_behind : Value) (w_t_outs : Value) (w_t_pack : Value) (w_t_image : Value) (w_t_isKept : Value) (x_t_page : Nat → Int32) (x_t_count : Nat → Int32) (x_t_open : Nat → Int32) (p1 : Int32) (res : Int32 × Int32 × (Nat → Int32) × (Nat → Int32)) (hf : f_X6_pass p1 x_t_places x_t_begins x_t_court x_t_opens x_t_page x_t_count x_t_open = some res) : CtI l yX6_pass cX6_pass 4 .int 3 65 E [.ref a_t, .int p1] (wd_X6_pass E a_t a_t_page a_t_count a_t_open x_t_signs w_t_pad x_t_places x_t_begins x_t_court x_t_allowed w_t_weight x_t_sights w_t_sight x_t_opens w_t_behind w_t_outs w_t_pack w_t_image w_t_isKept x_t_page x_t_count x_t_open) (wd_X6_pass E a_t a_t_page a_t_count a_t_open x_t_signs w_t_pad x_t_places x_t_begins x_t_court x_t_allowed w_t_weight x_t_sights w_t_sight res.2.1 w_t_behind w_t_outs w_t_pack w_t_image w_t_isKept x_t_page res.2.2.1 res.2.2.2) res.1 := by
  refine CtI.of RX6 (by decide) rfl (Nat.le_of_ble_eq_true rfl) ?_
  intro p e s m below meth c A Q ls X hA hP hD hl fin
  have hx := X.1
  have hb := X.2.1
  have hl : lv_has ls 4 [(0, .ref a_t), (1, .int p1)] := hl
  have fin' : ∀ (fr0 : Int32) (fr1 : Int32) (fr2 : (Nat → Int32)) (fr3 : (Nat → Int32)), some (fr0, fr1, fr2, fr3) = some res → ∀ (pc : Nat) (ls : Array Slot) (H : Heap) (locs : List Loc), decode cX6_pass pc = .ok (.ireturn, 1) → narrow .int (.int fr0) = .int fr0 → va_P E.1 vwCl (wd_X6_pass E a_t a_t_page a_t_count a_t_open x_t_signs w_t_pad x_t_places x_t_begins x_t_court x_t_allowed w_t_weight x_t_sights w_t_sight fr1 w_t_behind w_t_outs w_t_pack w_t_image w_t_isKept x_t_page fr2 fr3) H → va_D A (wd_X6_pass E a_t a_t_page a_t_count a_t_open x_t_signs w_t_pad x_t_places x_t_begins x_t_court x_t_allowed w_t_weight x_t_sights w_t_sight fr1 w_t_behind w_t_outs w_t_pack w_t_image w_t_isKept x_t_page fr2 fr3) → va_S A s.heap H locs → W p l e (rmm 3 65) s m ([.ref a_t, .int p1] : List Value).toArray below meth c H locs 0 0 Q (F0 m pc ls [.int fr0]) := by
    intro fr0 fr1 fr2 fr3 he
    cases he
    exact fin
  have L22 : ∀ (n22 : Nat) (v2 : Int32) (v3 : Int32) (m_t_opens : Int32) (m_t_count : Nat → Int32) (m_t_open : Nat → Int32), f_X6_pass_22 p1 x_t_places x_t_begins n22 v2 v3 m_t_opens m_t_count m_t_open = some res → ∀ (H : Heap) (locs : List Loc) (ls : Array Slot), va_P E.1 vwCl (wd_X6_pass E a_t a_t_page a_t_count a_t_open x_t_signs w_t_pad x_t_places x_t_begins x_t_court x_t_allowed w_t_weight x_t_sights w_t_sight m_t_opens w_t_behind w_t_outs w_t_pack w_t_image w_t_isKept x_t_page m_t_count m_t_open) H → va_D A (wd_X6_pass E a_t a_t_page a_t_count a_t_open x_t_signs w_t_pad x_t_places x_t_begins x_t_court x_t_allowed w_t_weight x_t_sights w_t_sight m_t_opens w_t_behind w_t_outs w_t_pack w_t_image w_t_isKept x_t_page m_t_count m_t_open) → va_S A s.heap H locs → lv_has ls 4 [(0, .ref a_t), (1, .int p1), (2, .int v2), (3, .int v3)] → W p l e (rmm 3 65) s m ([.ref a_t, .int p1] : List Value).toArray below meth c H locs 0 0 Q (F0 m 22 ls []) := by
    intro n22
    induction n22 with
    | zero => intro v2 v3 m_t_opens m_t_count m_t_open hf; rw [f_X6_pass_22] at hf; cases hf
    | succ n22 ih22 =>
      intro v2 v3 m_t_opens m_t_count m_t_open hf H locs ls hP hD hS hl
      rw [f_X6_pass_22] at hf
      refine lv_iload_n hx hb dX6_pass_22 rfl (lv_at hl 3 rfl) ?_
      refine lv_aload_n hx hb dX6_pass_23 rfl (lv_at hl 0 rfl) ?_
      refine gf_X6_13 X hP 0 rfl rfl dX6_pass_24 ?_
      refine lv_icmp_ge (tgt := 54) hx hb dX6_pass_27 (by decide) (fun c_27 => ?_) (fun c_27 => ?_)
      · have hf := if_t c_27 hf
        refine lv_iload_n hx hb dX6_pass_54 rfl (lv_at hl 1 rfl) ?_
        refine lv_iconst (v := (-1 : Int32)) hx hb dX6_pass_55 (by decide) ?_
        refine lv_icmp_ne (tgt := 63) hx hb dX6_pass_56 (by decide) (fun c_56 => ?_) (fun c_56 => ?_)
        · have hf := if_f c_56 hf
          refine lv_bipush (v := (-6 : Int32)) hx hb dX6_pass_63 (by decide) ?_
          exact fin' _ _ _ _ hf 65 ls H locs dX6_pass_65 rfl hP hD hS
        · have hf := if_t c_56 hf
          refine lv_iload_n hx hb dX6_pass_59 rfl (lv_at hl 2 rfl) ?_
          refine lv_goto (tgt := 65) hx hb dX6_pass_60 (by decide) ?_
          exact fin' _ _ _ _ hf 65 ls H locs dX6_pass_65 rfl hP hD hS
      · have hf := if_f c_27 hf
        refine lv_aload_n hx hb dX6_pass_30 rfl (lv_at hl 0 rfl) ?_
        refine lv_iload_n hx hb dX6_pass_31 rfl (lv_at hl 3 rfl) ?_
        obtain ⟨r32, hc32, hf⟩ := bd_some hf
        refine cV_I X hA hP hD hS hl.1 (c_X6_isPassed l E a_t a_t_count x_t_signs w_t_pad x_t_places (.ref a_t_page) x_t_begins x_t_court x_t_allowed w_t_weight x_t_sights w_t_sight m_t_opens (.ref a_t_open) w_t_behind w_t_outs w_t_pack w_t_image w_t_isKept m_t_count v3 r32 hc32) 1 k_785 mw_X6_isPassed hd_X6_isPassed ⟨Nat.le_of_ble_eq_true rfl, Nat.le_of_ble_eq_true rfl⟩ [0, 2] [1, 3] [2, 0, 3, 1] rfl rfl (wr := [1, 3].filterMap (fun i => (wd_X6_pass E a_t a_t_page a_t_count a_t_open x_t_signs w_t_pad x_t_places x_t_begins x_t_court x_t_allowed w_t_weight x_t_sights w_t_sight m_t_opens w_t_behind w_t_outs w_t_pack w_t_image w_t_isKept x_t_page m_t_count m_t_open)[i]?)) rfl rfl rfl 6 0 rfl rfl rfl rfl rfl (Nat.le_of_ble_eq_true rfl) rfl (ws' := (wd_X6_pass E a_t a_t_page a_t_count a_t_open x_t_signs w_t_pad x_t_places x_t_begins x_t_court x_t_allowed w_t_weight x_t_sights w_t_sight m_t_opens w_t_behind w_t_outs w_t_pack w_t_image w_t_isKept x_t_page m_t_count m_t_open)) rfl ⟨Nat.le_of_ble_eq_true rfl, Nat.le_of_ble_eq_true rfl⟩ dX6_pass_32 (fun H locs hP hD hS => ?_)
        refine lv_if_eq (tgt := 48) hx hb dX6_pass_35 (by decide) (fun c_35 => ?_) (fun c_35 => ?_)
        · have hf := if_t c_35 hf
          refine lv_iinc (v := (v3 + (1 : Int32))) (lv' := [(3, .int (v3 + (1 : Int32))), (0, .ref a_t), (1, .int p1), (2, .int v2)]) hx hb dX6_pass_48 hl (k := 3) rfl rfl (by decide) rfl (fun ls hl => ?_)
          refine lv_goto (tgt := 22) hx hb dX6_pass_51 (by decide) ?_
          exact ih22 v2 (v3 + (1 : Int32)) m_t_opens m_t_count m_t_open hf H locs ls hP hD hS (lv_sub hl [1, 2, 3, 0] rfl)
        · have hf := if_f c_35 hf
          refine lv_iload_n hx hb dX6_pass_38 rfl (lv_at hl 2 rfl) ?_
          refine lv_iload_n hx hb dX6_pass_39 rfl (lv_at hl 1 rfl) ?_
          refine lv_icmp_ne (tgt := 45) hx hb dX6_pass_40 (by decide) (fun c_40 => ?_) (fun c_40 => ?_)
          · have hf := if_f c_40 hf
            refine lv_iinc (v := (v2 + (1 : Int32))) (lv' := [(2, .int (v2 + (1 : Int32))), (0, .ref a_t), (1, .int p1), (3, .int v3)]) hx hb dX6_pass_45 hl (k := 2) rfl rfl (by decide) rfl (fun ls hl => ?_)
            refine lv_iinc (v := (v3 + (1 : Int32))) (lv' := [(3, .int (v3 + (1 : Int32))), (2, .int (v2 + (1 : Int32))), (0, .ref a_t), (1, .int p1)]) hx hb dX6_pass_48 hl (k := 3) rfl rfl (by decide) rfl (fun ls hl => ?_)
            refine lv_goto (tgt := 22) hx hb dX6_pass_51 (by decide) ?_
            exact ih22 (v2 + (1 : Int32)) (v3 + (1 : Int32)) m_t_opens m_t_count m_t_open hf H locs ls hP hD hS (lv_sub hl [2, 3, 1, 0] rfl)
          · have hf := if_t c_40 hf
            refine lv_iload_n hx hb dX6_pass_43 rfl (lv_at hl 3 rfl) ?_
            exact fin' _ _ _ _ hf 44 ls H locs dX6_pass_44 rfl hP hD hS
  have hS : va_S A s.heap s.heap [] := va_S.rf
  obtain ⟨H, hH9⟩ : ∃ z, z = s.heap := ⟨_, rfl⟩
  obtain ⟨locs, hL9⟩ : ∃ z : List Loc, z = [] := ⟨_, rfl⟩
  rw [← hL9]
  rw [← hL9] at hS
  have hP : va_P E.1 vwCl (wd_X6_pass E a_t a_t_page a_t_count a_t_open x_t_signs w_t_pad x_t_places x_t_begins x_t_court x_t_allowed w_t_weight x_t_sights w_t_sight x_t_opens w_t_behind w_t_outs w_t_pack w_t_image w_t_isKept x_t_page x_t_count x_t_open) H := by rw [hH9]; exact hP
  have hS : va_S A s.heap H locs := by rw [hH9]; exact hS
  suffices hgoal : W p l e (rmm 3 65) s m ([.ref a_t, .int p1] : List Value).toArray below meth c H locs 0 0 Q (F0 m 0 ls []) by rw [hH9] at hgoal; exact hgoal
  rw [f_X6_pass] at hf
  refine lv_aload_n hx hb dX6_pass_0 rfl (lv_at hl 0 rfl) ?_
  obtain ⟨r1, hc1, hf⟩ := bd_some hf
  refine cV_I X hA hP hD hS hl.1 (c_X6_isWhole l E a_t a_t_page x_t_signs w_t_pad x_t_places x_t_begins x_t_court x_t_allowed w_t_weight x_t_sights w_t_sight (.ref a_t_count) x_t_opens (.ref a_t_open) w_t_behind w_t_outs w_t_pack w_t_image w_t_isKept x_t_page r1 hc1) 0 k_749 mw_X6_isWhole hd_X6_isWhole ⟨Nat.le_of_ble_eq_true rfl, Nat.le_of_ble_eq_true rfl⟩ [0, 1] [2, 3] [2, 3, 0, 1] rfl rfl (wr := [2, 3].filterMap (fun i => (wd_X6_pass E a_t a_t_page a_t_count a_t_open x_t_signs w_t_pad x_t_places x_t_begins x_t_court x_t_allowed w_t_weight x_t_sights w_t_sight x_t_opens w_t_behind w_t_outs w_t_pack w_t_image w_t_isKept x_t_page x_t_count x_t_open)[i]?)) rfl rfl rfl 6 0 rfl rfl rfl rfl rfl (Nat.le_of_ble_eq_true rfl) rfl (ws' := (wd_X6_pass E a_t a_t_page a_t_count a_t_open x_t_signs w_t_pad x_t_places x_t_begins x_t_court x_t_allowed w_t_weight x_t_sights w_t_sight x_t_opens w_t_behind w_t_outs w_t_pack w_t_image w_t_isKept x_t_page x_t_count x_t_open)) rfl ⟨Nat.le_of_ble_eq_true rfl, Nat.le_of_ble_eq_true rfl⟩ dX6_pass_1 (fun H locs hP hD hS => ?_)
  refine lv_if_ne (tgt := 10) hx hb dX6_pass_4 (by decide) (fun c_4 => ?_) (fun c_4 => ?_)
  · have hf := if_f c_4 hf
    refine lv_aload_n hx hb dX6_pass_10 rfl (lv_at hl 0 rfl) ?_
    refine lv_aload_n hx hb dX6_pass_11 rfl (lv_at hl 0 rfl) ?_
    refine gf_X6_23 X hP 0 rfl rfl dX6_pass_12 ?_
    obtain ⟨r15, hc15, hf⟩ := bd_some hf
    refine cV_V X hA hP hD hS hl.1 (c_X6_lay l E a_t a_t_count a_t_page a_t_open x_t_signs w_t_pad x_t_places x_t_begins x_t_court x_t_allowed w_t_weight x_t_sights w_t_sight x_t_opens w_t_behind w_t_outs w_t_pack w_t_image w_t_isKept x_t_count x_t_page x_t_open x_t_court r15 hc15) 1 k_757 mw_X6_lay hd_X6_lay ⟨Nat.le_of_ble_eq_true rfl, Nat.le_of_ble_eq_true rfl⟩ [0, 2, 1, 3] [] [0, 2, 1, 3] rfl rfl (wr := []) rfl rfl rfl 6 0 rfl rfl rfl rfl rfl (Nat.le_of_ble_eq_true rfl) rfl (ws' := (wd_X6_pass E a_t a_t_page a_t_count a_t_open x_t_signs w_t_pad x_t_places x_t_begins x_t_court x_t_allowed w_t_weight x_t_sights w_t_sight r15.1 w_t_behind w_t_outs w_t_pack w_t_image w_t_isKept x_t_page r15.2.1 r15.2.2)) rfl ⟨Nat.le_of_ble_eq_true rfl, Nat.le_of_ble_eq_true rfl⟩ dX6_pass_15 (fun H locs hP hD hS => ?_)
    refine lv_iconst (v := (0 : Int32)) hx hb dX6_pass_18 (by decide) ?_
    refine lv_istore_n (lv' := [(2, .int (0 : Int32)), (0, .ref a_t), (1, .int p1)]) hx hb dX6_pass_19 rfl hl (by decide) rfl (fun ls hl => ?_)
    refine lv_iconst (v := (0 : Int32)) hx hb dX6_pass_20 (by decide) ?_
    refine lv_istore_n (lv' := [(3, .int (0 : Int32)), (2, .int (0 : Int32)), (0, .ref a_t), (1, .int p1)]) hx hb dX6_pass_21 rfl hl (by decide) rfl (fun ls hl => ?_)
    exact L22 FU (0 : Int32) (0 : Int32) r15.1 r15.2.1 r15.2.2 hf H locs ls hP hD hS (lv_sub hl [2, 3, 1, 0] rfl)
  · have hf := if_t c_4 hf
    refine lv_bipush (v := (-3 : Int32)) hx hb dX6_pass_7 (by decide) ?_
    exact fin' _ _ _ _ hf 9 ls H locs dX6_pass_9 rfl hP hD hS
abbrev wd_X6_layBehind (E : EN) (a_t : Nat) (a_t_behind : Nat) (a_t_count : Nat) (x_t_signs : Int32) (w_t_pad : Value) (x_t_places : Int32) (w_t_page : Value) (x_t_begins : Int32) (x_t_court : Int32) (x_t_allowed : Int32) (w_t_weight : Value) (x_t_sights : Int32) (w_t_sight : Value) (x_t_opens : Int32) (w_t_open : Value) (w_t_outs : Value) (w_t_pack : Value) (w_t_image : Value) (w_t_isKept : Value) (x_t_behind : Nat → Int32) (x_t_count : Nat → Int32) : va_W := [(a_t, e_O 6 [.int x_t_signs, w_t_pad, .int x_t_places, w_t_page, .int x_t_begins, .int x_t_court, .int x_t_allowed, w_t_weight, .int x_t_sights, w_t_sight, .ref a_t_count, .int x_t_opens, w_t_open, .ref a_t_behind, w_t_outs, w_t_pack, w_t_image, w_t_isKept]), (a_t_behind, e_I E 40 x_t_behind), (a_t_count, e_I E 40 x_t_count)]
def f_X6_layBehind_25 (x_t_places : Int32) (x_t_count : Nat → Int32)  : Nat → Int32 → (Nat → Int32) → Option ((Nat → Int32))
  | 0, _, _ => none
  | n_ + 1, v1, m_t_behind =>
    if x_t_places ≤ v1 then
      some m_t_behind
    else
      ck (inB v1 40) (
      if x_t_places ≤ (v1 + (x_t_count (ix v1))) then
        f_X6_layBehind_25 x_t_places x_t_count n_ (v1 + (1 : Int32)) m_t_behind
      else
        ck (inB (v1 + (x_t_count (ix v1))) 40) (
        if ((m_t_behind (ix v1)) + (1 : Int32)) ≤ (m_t_behind (ix (v1 + (x_t_count (ix v1))))) then
          f_X6_layBehind_25 x_t_places x_t_count n_ (v1 + (1 : Int32)) m_t_behind
        else
          f_X6_layBehind_25 x_t_places x_t_count n_ (v1 + (1 : Int32)) (upd m_t_behind (ix (v1 + (x_t_count (ix v1)))) ((m_t_behind (ix v1)) + (1 : Int32)))))
def f_X6_layBehind_2 (x_t_places : Int32) (x_t_count : Nat → Int32)  : Nat → Int32 → (Nat → Int32) → Option ((Nat → Int32))
  | 0, _, _ => none
  | n_ + 1, v1, m_t_behind =>
    if x_t_places ≤ v1 then
      f_X6_layBehind_25 x_t_places x_t_count FU (0 : Int32) m_t_behind
    else
      ck (inB v1 40) (
      f_X6_layBehind_2 x_t_places x_t_count n_ (v1 + (1 : Int32)) (upd m_t_behind (ix v1) (0 : Int32)))
def f_X6_layBehind (x_t_places : Int32) (x_t_behind : Nat → Int32) (x_t_count : Nat → Int32) : Option ((Nat → Int32)) :=
  f_X6_layBehind_2 x_t_places x_t_count FU (0 : Int32) x_t_behind
set_option maxHeartbeats 4000000 in
set_option maxRecDepth 100000 in
theorem c_X6_layBehind (l : Launch) (E : EN) (a_t a_t_behind a_t_count : Nat) (x_t_signs : Int32) (w_t_pad : Value) (x_t_places : Int32) (w_t_page : Value) (x_t_begins : Int32) (x_t_court : Int32) (x_t_allowed : Int32) (w_t_weight : Value) (x_t_sights : Int32) (w_t_sight : Value) (x_t_opens : Int32) (w_t_open : Value) (w_t_outs : Value) (w_t_pack : Value) (w_t_image : Value) (w_t_isKept : Value) (x_t_behind : Nat → Int32) (x_t_count : Nat → Int32)  (res : (Nat → Int32)) (hf : f_X6_layBehind x_t_places x_t_behind x_t_count = some res) : CtV l yX6_layBehind cX6_layBehind 3 0 0 E [.ref a_t] (wd_X6_layBehind E a_t a_t_behind a_t_count x_t_signs w_t_pad x_t_places w_t_page x_t_begins x_t_court x_t_allowed w_t_weight x_t_sights w_t_sight x_t_opens w_t_open w_t_outs w_t_pack w_t_image w_t_isKept x_t_behind x_t_count) (wd_X6_layBehind E a_t a_t_behind a_t_count x_t_signs w_t_pad x_t_places w_t_page x_t_begins x_t_court x_t_allowed w_t_weight x_t_sights w_t_sight x_t_opens w_t_open w_t_outs w_t_pack w_t_image w_t_isKept res x_t_count) := by
  refine CtV.of RX6 (by decide) rfl (Nat.le_of_ble_eq_true rfl) ?_
  intro p e s m below meth c A Q ls X hA hP hD hl fin
  have hx := X.1
  have hb := X.2.1
  have hl : lv_has ls 3 [(0, .ref a_t)] := hl
  have fin' : ∀ (fr0 : (Nat → Int32)), some fr0 = some res → ∀ (pc : Nat) (ls : Array Slot) (H : Heap) (locs : List Loc), decode cX6_layBehind pc = .ok (.return_, 1) → va_P E.1 vwCl (wd_X6_layBehind E a_t a_t_behind a_t_count x_t_signs w_t_pad x_t_places w_t_page x_t_begins x_t_court x_t_allowed w_t_weight x_t_sights w_t_sight x_t_opens w_t_open w_t_outs w_t_pack w_t_image w_t_isKept fr0 x_t_count) H → va_D A (wd_X6_layBehind E a_t a_t_behind a_t_count x_t_signs w_t_pad x_t_places w_t_page x_t_begins x_t_court x_t_allowed w_t_weight x_t_sights w_t_sight x_t_opens w_t_open w_t_outs w_t_pack w_t_image w_t_isKept fr0 x_t_count) → va_S A s.heap H locs → W p l e (rmm 0 0) s m ([.ref a_t] : List Value).toArray below meth c H locs 0 0 Q (F0 m pc ls []) := by
    intro fr0 he
    cases he
    exact fin
  have L25 : ∀ (n25 : Nat) (v1 : Int32) (m_t_behind : Nat → Int32), f_X6_layBehind_25 x_t_places x_t_count n25 v1 m_t_behind = some res → ∀ (H : Heap) (locs : List Loc) (ls : Array Slot), va_P E.1 vwCl (wd_X6_layBehind E a_t a_t_behind a_t_count x_t_signs w_t_pad x_t_places w_t_page x_t_begins x_t_court x_t_allowed w_t_weight x_t_sights w_t_sight x_t_opens w_t_open w_t_outs w_t_pack w_t_image w_t_isKept m_t_behind x_t_count) H → va_D A (wd_X6_layBehind E a_t a_t_behind a_t_count x_t_signs w_t_pad x_t_places w_t_page x_t_begins x_t_court x_t_allowed w_t_weight x_t_sights w_t_sight x_t_opens w_t_open w_t_outs w_t_pack w_t_image w_t_isKept m_t_behind x_t_count) → va_S A s.heap H locs → lv_has ls 3 [(0, .ref a_t), (1, .int v1)] → W p l e (rmm 0 0) s m ([.ref a_t] : List Value).toArray below meth c H locs 0 0 Q (F0 m 25 ls []) := by
    intro n25
    induction n25 with
    | zero => intro v1 m_t_behind hf; rw [f_X6_layBehind_25] at hf; cases hf
    | succ n25 ih25 =>
      intro v1 m_t_behind hf H locs ls hP hD hS hl
      rw [f_X6_layBehind_25] at hf
      refine lv_iload_n hx hb dX6_layBehind_25 rfl (lv_at hl 1 rfl) ?_
      refine lv_aload_n hx hb dX6_layBehind_26 rfl (lv_at hl 0 rfl) ?_
      refine gf_X6_13 X hP 0 rfl rfl dX6_layBehind_27 ?_
      refine lv_icmp_ge (tgt := 87) hx hb dX6_layBehind_30 (by decide) (fun c_30 => ?_) (fun c_30 => ?_)
      · have hf := if_t c_30 hf
        exact fin' _ hf 87 ls H locs dX6_layBehind_87 hP hD hS
      · have hf := if_f c_30 hf
        refine lv_iload_n hx hb dX6_layBehind_33 rfl (lv_at hl 1 rfl) ?_
        refine lv_aload_n hx hb dX6_layBehind_34 rfl (lv_at hl 0 rfl) ?_
        refine gf_X6_35 X hP 0 rfl rfl dX6_layBehind_35 ?_
        refine lv_iload_n hx hb dX6_layBehind_38 rfl (lv_at hl 1 rfl) ?_
        obtain ⟨hi39, hf⟩ := ck_some hf
        refine r_iald X hP 2 rfl hi39 dX6_layBehind_39 ?_
        refine lv_iadd hx hb dX6_layBehind_40 ?_
        refine lv_istore_n (lv' := [(2, .int (v1 + (x_t_count (ix v1)))), (0, .ref a_t), (1, .int v1)]) hx hb dX6_layBehind_41 rfl hl (by decide) rfl (fun ls hl => ?_)
        refine lv_iload_n hx hb dX6_layBehind_42 rfl (lv_at hl 0 rfl) ?_
        refine lv_aload_n hx hb dX6_layBehind_43 rfl (lv_at hl 1 rfl) ?_
        refine gf_X6_13 X hP 0 rfl rfl dX6_layBehind_44 ?_
        refine lv_icmp_ge (tgt := 81) hx hb dX6_layBehind_47 (by decide) (fun c_47 => ?_) (fun c_47 => ?_)
        · have hf := if_t c_47 hf
          refine lv_iinc (v := (v1 + (1 : Int32))) (lv' := [(1, .int (v1 + (1 : Int32))), (2, .int (v1 + (x_t_count (ix v1)))), (0, .ref a_t)]) hx hb dX6_layBehind_81 hl (k := 2) rfl rfl (by decide) rfl (fun ls hl => ?_)
          refine lv_goto (tgt := 25) hx hb dX6_layBehind_84 (by decide) ?_
          exact ih25 (v1 + (1 : Int32)) m_t_behind hf H locs ls hP hD hS (lv_sub hl [2, 0] rfl)
        · have hf := if_f c_47 hf
          refine lv_aload_n hx hb dX6_layBehind_50 rfl (lv_at hl 1 rfl) ?_
          refine gf_X6_41 X hP 0 rfl rfl dX6_layBehind_51 ?_
          refine lv_iload_n hx hb dX6_layBehind_54 rfl (lv_at hl 2 rfl) ?_
          refine r_iald X hP 1 rfl hi39 dX6_layBehind_55 ?_
          refine lv_iconst (v := (1 : Int32)) hx hb dX6_layBehind_56 (by decide) ?_
          refine lv_iadd hx hb dX6_layBehind_57 ?_
          refine lv_aload_n hx hb dX6_layBehind_58 rfl (lv_at hl 1 rfl) ?_
          refine gf_X6_41 X hP 0 rfl rfl dX6_layBehind_59 ?_
          refine lv_iload_n hx hb dX6_layBehind_62 rfl (lv_at hl 0 rfl) ?_
          obtain ⟨hi63, hf⟩ := ck_some hf
          refine r_iald X hP 1 rfl hi63 dX6_layBehind_63 ?_
          refine lv_icmp_le (tgt := 81) hx hb dX6_layBehind_64 (by decide) (fun c_64 => ?_) (fun c_64 => ?_)
          · have hf := if_t c_64 hf
            refine lv_iinc (v := (v1 + (1 : Int32))) (lv' := [(1, .int (v1 + (1 : Int32))), (2, .int (v1 + (x_t_count (ix v1)))), (0, .ref a_t)]) hx hb dX6_layBehind_81 hl (k := 2) rfl rfl (by decide) rfl (fun ls hl => ?_)
            refine lv_goto (tgt := 25) hx hb dX6_layBehind_84 (by decide) ?_
            exact ih25 (v1 + (1 : Int32)) m_t_behind hf H locs ls hP hD hS (lv_sub hl [2, 0] rfl)
          · have hf := if_f c_64 hf
            refine lv_aload_n hx hb dX6_layBehind_67 rfl (lv_at hl 1 rfl) ?_
            refine gf_X6_41 X hP 0 rfl rfl dX6_layBehind_68 ?_
            refine lv_iload_n hx hb dX6_layBehind_71 rfl (lv_at hl 0 rfl) ?_
            refine lv_aload_n hx hb dX6_layBehind_72 rfl (lv_at hl 1 rfl) ?_
            refine gf_X6_41 X hP 0 rfl rfl dX6_layBehind_73 ?_
            refine lv_iload_n hx hb dX6_layBehind_76 rfl (lv_at hl 2 rfl) ?_
            refine r_iald X hP 1 rfl hi39 dX6_layBehind_77 ?_
            refine lv_iconst (v := (1 : Int32)) hx hb dX6_layBehind_78 (by decide) ?_
            refine lv_iadd hx hb dX6_layBehind_79 ?_
            refine r_iast X hP hD hS 1 rfl hi63 (ws' := (wd_X6_layBehind E a_t a_t_behind a_t_count x_t_signs w_t_pad x_t_places w_t_page x_t_begins x_t_court x_t_allowed w_t_weight x_t_sights w_t_sight x_t_opens w_t_open w_t_outs w_t_pack w_t_image w_t_isKept (upd m_t_behind (ix (v1 + (x_t_count (ix v1)))) ((m_t_behind (ix v1)) + (1 : Int32))) x_t_count)) rfl dX6_layBehind_80 (fun H locs hP hD hS => ?_)
            refine lv_iinc (v := (v1 + (1 : Int32))) (lv' := [(1, .int (v1 + (1 : Int32))), (2, .int (v1 + (x_t_count (ix v1)))), (0, .ref a_t)]) hx hb dX6_layBehind_81 hl (k := 2) rfl rfl (by decide) rfl (fun ls hl => ?_)
            refine lv_goto (tgt := 25) hx hb dX6_layBehind_84 (by decide) ?_
            exact ih25 (v1 + (1 : Int32)) (upd m_t_behind (ix (v1 + (x_t_count (ix v1)))) ((m_t_behind (ix v1)) + (1 : Int32))) hf H locs ls hP hD hS (lv_sub hl [2, 0] rfl)
  have L2 : ∀ (n2 : Nat) (v1 : Int32) (m_t_behind : Nat → Int32), f_X6_layBehind_2 x_t_places x_t_count n2 v1 m_t_behind = some res → ∀ (H : Heap) (locs : List Loc) (ls : Array Slot), va_P E.1 vwCl (wd_X6_layBehind E a_t a_t_behind a_t_count x_t_signs w_t_pad x_t_places w_t_page x_t_begins x_t_court x_t_allowed w_t_weight x_t_sights w_t_sight x_t_opens w_t_open w_t_outs w_t_pack w_t_image w_t_isKept m_t_behind x_t_count) H → va_D A (wd_X6_layBehind E a_t a_t_behind a_t_count x_t_signs w_t_pad x_t_places w_t_page x_t_begins x_t_court x_t_allowed w_t_weight x_t_sights w_t_sight x_t_opens w_t_open w_t_outs w_t_pack w_t_image w_t_isKept m_t_behind x_t_count) → va_S A s.heap H locs → lv_has ls 3 [(0, .ref a_t), (1, .int v1)] → W p l e (rmm 0 0) s m ([.ref a_t] : List Value).toArray below meth c H locs 0 0 Q (F0 m 2 ls []) := by
    intro n2
    induction n2 with
    | zero => intro v1 m_t_behind hf; rw [f_X6_layBehind_2] at hf; cases hf
    | succ n2 ih2 =>
      intro v1 m_t_behind hf H locs ls hP hD hS hl
      rw [f_X6_layBehind_2] at hf
      refine lv_iload_n hx hb dX6_layBehind_2 rfl (lv_at hl 1 rfl) ?_
      refine lv_aload_n hx hb dX6_layBehind_3 rfl (lv_at hl 0 rfl) ?_
      refine gf_X6_13 X hP 0 rfl rfl dX6_layBehind_4 ?_
      refine lv_icmp_ge (tgt := 23) hx hb dX6_layBehind_7 (by decide) (fun c_7 => ?_) (fun c_7 => ?_)
      · have hf := if_t c_7 hf
        refine lv_iconst (v := (0 : Int32)) hx hb dX6_layBehind_23 (by decide) ?_
        refine lv_istore_n (lv' := [(1, .int (0 : Int32)), (0, .ref a_t)]) hx hb dX6_layBehind_24 rfl hl (by decide) rfl (fun ls hl => ?_)
        exact L25 FU (0 : Int32) m_t_behind hf H locs ls hP hD hS (lv_sub hl [1, 0] rfl)
      · have hf := if_f c_7 hf
        refine lv_aload_n hx hb dX6_layBehind_10 rfl (lv_at hl 0 rfl) ?_
        refine gf_X6_41 X hP 0 rfl rfl dX6_layBehind_11 ?_
        refine lv_iload_n hx hb dX6_layBehind_14 rfl (lv_at hl 1 rfl) ?_
        refine lv_iconst (v := (0 : Int32)) hx hb dX6_layBehind_15 (by decide) ?_
        obtain ⟨hi16, hf⟩ := ck_some hf
        refine r_iast X hP hD hS 1 rfl hi16 (ws' := (wd_X6_layBehind E a_t a_t_behind a_t_count x_t_signs w_t_pad x_t_places w_t_page x_t_begins x_t_court x_t_allowed w_t_weight x_t_sights w_t_sight x_t_opens w_t_open w_t_outs w_t_pack w_t_image w_t_isKept (upd m_t_behind (ix v1) (0 : Int32)) x_t_count)) rfl dX6_layBehind_16 (fun H locs hP hD hS => ?_)
        refine lv_iinc (v := (v1 + (1 : Int32))) (lv' := [(1, .int (v1 + (1 : Int32))), (0, .ref a_t)]) hx hb dX6_layBehind_17 hl (k := 1) rfl rfl (by decide) rfl (fun ls hl => ?_)
        refine lv_goto (tgt := 2) hx hb dX6_layBehind_20 (by decide) ?_
        exact ih2 (v1 + (1 : Int32)) (upd m_t_behind (ix v1) (0 : Int32)) hf H locs ls hP hD hS (lv_sub hl [1, 0] rfl)
  have hS : va_S A s.heap s.heap [] := va_S.rf
  obtain ⟨H, hH9⟩ : ∃ z, z = s.heap := ⟨_, rfl⟩
  obtain ⟨locs, hL9⟩ : ∃ z : List Loc, z = [] := ⟨_, rfl⟩
  rw [← hL9]
  rw [← hL9] at hS
  have hP : va_P E.1 vwCl (wd_X6_layBehind E a_t a_t_behind a_t_count x_t_signs w_t_pad x_t_places w_t_page x_t_begins x_t_court x_t_allowed w_t_weight x_t_sights w_t_sight x_t_opens w_t_open w_t_outs w_t_pack w_t_image w_t_isKept x_t_behind x_t_count) H := by rw [hH9]; exact hP
  have hS : va_S A s.heap H locs := by rw [hH9]; exact hS
  suffices hgoal : W p l e (rmm 0 0) s m ([.ref a_t] : List Value).toArray below meth c H locs 0 0 Q (F0 m 0 ls []) by rw [hH9] at hgoal; exact hgoal
  rw [f_X6_layBehind] at hf
  refine lv_iconst (v := (0 : Int32)) hx hb dX6_layBehind_0 (by decide) ?_
  refine lv_istore_n (lv' := [(1, .int (0 : Int32)), (0, .ref a_t)]) hx hb dX6_layBehind_1 rfl hl (by decide) rfl (fun ls hl => ?_)
  exact L2 FU (0 : Int32) x_t_behind hf H locs ls hP hD hS (lv_sub hl [1, 0] rfl)
abbrev wd_X6_tree (E : EN) (a_t : Nat) (a_t_page : Nat) (a_t_count : Nat) (a_t_open : Nat) (a_t_behind : Nat) (x_t_signs : Int32) (w_t_pad : Value) (x_t_places : Int32) (x_t_begins : Int32) (x_t_court : Int32) (x_t_allowed : Int32) (w_t_weight : Value) (x_t_sights : Int32) (w_t_sight : Value) (x_t_opens : Int32) (w_t_outs : Value) (w_t_pack : Value) (w_t_image : Value) (w_t_isKept : Value) (x_t_page : Nat → Int32) (x_t_count : Nat → Int32) (x_t_open : Nat → Int32) (x_t_behind : Nat → Int32) : va_W := [(a_t, e_O 6 [.int x_t_signs, w_t_pad, .int x_t_places, .ref a_t_page, .int x_t_begins, .int x_t_court, .int x_t_allowed, w_t_weight, .int x_t_sights, w_t_sight, .ref a_t_count, .int x_t_opens, .ref a_t_open, .ref a_t_behind, w_t_outs, w_t_pack, w_t_image, w_t_isKept]), (a_t_page, e_I E 40 x_t_page), (a_t_count, e_I E 40 x_t_count), (a_t_open, e_I E 5 x_t_open), (a_t_behind, e_I E 40 x_t_behind)]
def f_X6_tree_86 (p1 : Int32) (K_52 : Int32 → Int32 → Int32 → Int32 → (Nat → Int32) → (Nat → Int32) → (Nat → Int32) → Option (Int32 × Int32 × (Nat → Int32) × (Nat → Int32) × (Nat → Int32))) (v4 : Int32) (v5 : Int32) (s0 : Int32) (s1 : Int32) (m_t_opens : Int32) (m_t_count : Nat → Int32) (m_t_open : Nat → Int32) (m_t_behind : Nat → Int32) : Option (Int32 × Int32 × (Nat → Int32) × (Nat → Int32) × (Nat → Int32)) :=
  ck (inB v5 40) (
  if (v5 + (m_t_count (ix v5))) = p1 then
    K_52 (s1 + s0) (v4 + (1 : Int32)) (v5 + (1 : Int32)) m_t_opens m_t_count m_t_open m_t_behind
  else
    K_52 (s1 + s0) (v4 + (0 : Int32)) (v5 + (1 : Int32)) m_t_opens m_t_count m_t_open m_t_behind)
def f_X6_tree_52 (p1 : Int32) (p2 : Int32) (x_t_places : Int32) (x_t_begins : Int32)  : Nat → Int32 → Int32 → Int32 → Int32 → (Nat → Int32) → (Nat → Int32) → (Nat → Int32) → Option (Int32 × Int32 × (Nat → Int32) × (Nat → Int32) × (Nat → Int32))
  | 0, _, _, _, _, _, _, _ => none
  | n_ + 1, v3, v4, v5, m_t_opens, m_t_count, m_t_open, m_t_behind =>
    if x_t_places ≤ v5 then
      if p2 = 0 then
        some (v3, m_t_opens, m_t_count, m_t_open, m_t_behind)
      else
        if p2 = (1 : Int32) then
          some (v4, m_t_opens, m_t_count, m_t_open, m_t_behind)
        else
          ck (inB p1 40) (
          some ((m_t_behind (ix p1)), m_t_opens, m_t_count, m_t_open, m_t_behind))
    else
      if x_t_begins ≤ v5 then
        f_X6_tree_86 p1 (f_X6_tree_52 p1 p2 x_t_places x_t_begins n_) v4 v5 (0 : Int32) v3 m_t_opens m_t_count m_t_open m_t_behind
      else
        Option.bind (f_X6_comesTo v5 p1 x_t_places m_t_count) (fun r75 =>
        if r75 = 0 then
          f_X6_tree_86 p1 (f_X6_tree_52 p1 p2 x_t_places x_t_begins n_) v4 v5 (0 : Int32) v3 m_t_opens m_t_count m_t_open m_t_behind
        else
          f_X6_tree_86 p1 (f_X6_tree_52 p1 p2 x_t_places x_t_begins n_) v4 v5 (1 : Int32) v3 m_t_opens m_t_count m_t_open m_t_behind)
def f_X6_tree (p1 : Int32) (p2 : Int32) (x_t_places : Int32) (x_t_begins : Int32) (x_t_court : Int32) (x_t_opens : Int32) (x_t_page : Nat → Int32) (x_t_count : Nat → Int32) (x_t_open : Nat → Int32) (x_t_behind : Nat → Int32) : Option (Int32 × Int32 × (Nat → Int32) × (Nat → Int32) × (Nat → Int32)) :=
  Option.bind (f_X6_isPlace p1 x_t_places) (fun r2 =>
  if r2 = 0 then
    some ((-1 : Int32), x_t_opens, x_t_count, x_t_open, x_t_behind)
  else
    Option.bind (f_X6_in p2 (0 : Int32) (2 : Int32)) (fun r13 =>
    if r13 = 0 then
      some ((-2 : Int32), x_t_opens, x_t_count, x_t_open, x_t_behind)
    else
      Option.bind (f_X6_isWhole x_t_places x_t_page) (fun r23 =>
      if r23 = 0 then
        some ((-3 : Int32), x_t_opens, x_t_count, x_t_open, x_t_behind)
      else
        Option.bind (f_X6_lay x_t_court x_t_places x_t_count x_t_page x_t_open) (fun r37 =>
        Option.bind (f_X6_layBehind x_t_places x_t_behind r37.2.1) (fun r41 =>
        f_X6_tree_52 p1 p2 x_t_places x_t_begins FU (0 : Int32) (0 : Int32) (0 : Int32) r37.1 r37.2.1 r37.2.2 r41)))))
set_option maxHeartbeats 4000000 in
set_option maxRecDepth 100000 in
theorem c_X6_tree (l : Launch) (E : EN) (a_t a_t_page a_t_count a_t_open a_t_behind : Nat) (x_t_signs : Int32) (w_t_pad : Value) (x_t_places : Int32) (x_t_begins : Int32) (x_t_court : Int32) (x_t_allowed : Int32) (w_t_weight : Value) (x_t_sights : Int32) (w_t_sight : Value) (x_t_opens : Int32) (w_t_outs : Value) (w_t_pack : Value) (w_t_image : Value) (w_t_isKept : Value) (x_t_page : Nat → Int32) (x_t_count : Nat → Int32) (x_t_open : Nat → Int32) (x_t_behind : Nat → Int32) (p1 : Int32) (p2 : Int32) (res : Int32 × Int32 × (Nat → Int32) × (Nat → Int32) × (Nat → Int32)) (hf : f_X6_tree p1 p2 x_t_places x_t_begins x_t_court x_t_opens x_t_page x_t_count x_t_open x_t_behind = some res) : CtI l yX6_tree cX6_tree 6 .int 3 65 E [.ref a_t, .int p1, .int p2] (wd_X6_tree E a_t a_t_page a_t_count a_t_open a_t_behind x_t_signs w_t_pad x_t_places x_t_begins x_t_court x_t_allowed w_t_weight x_t_sights w_t_sight x_t_opens w_t_outs w_t_pack w_t_image w_t_isKept x_t_page x_t_count x_t_open x_t_behind) (wd_X6_tree E a_t a_t_page a_t_count a_t_open a_t_behind x_t_signs w_t_pad x_t_places x_t_begins x_t_court x_t_allowed w_t_weight x_t_sights w_t_sight res.2.1 w_t_outs w_t_pack w_t_image w_t_isKept x_t_page res.2.2.1 res.2.2.2.1 res.2.2.2.2) res.1 := by
  refine CtI.of RX6 (by decide) rfl (Nat.le_of_ble_eq_true rfl) ?_
  intro p e s m below meth c A Q ls X hA hP hD hl fin
  have hx := X.1
  have hb := X.2.1
  have hl : lv_has ls 6 [(0, .ref a_t), (1, .int p1), (2, .int p2)] := hl
  have fin' : ∀ (fr0 : Int32) (fr1 : Int32) (fr2 : (Nat → Int32)) (fr3 : (Nat → Int32)) (fr4 : (Nat → Int32)), some (fr0, fr1, fr2, fr3, fr4) = some res → ∀ (pc : Nat) (ls : Array Slot) (H : Heap) (locs : List Loc), decode cX6_tree pc = .ok (.ireturn, 1) → narrow .int (.int fr0) = .int fr0 → va_P E.1 vwCl (wd_X6_tree E a_t a_t_page a_t_count a_t_open a_t_behind x_t_signs w_t_pad x_t_places x_t_begins x_t_court x_t_allowed w_t_weight x_t_sights w_t_sight fr1 w_t_outs w_t_pack w_t_image w_t_isKept x_t_page fr2 fr3 fr4) H → va_D A (wd_X6_tree E a_t a_t_page a_t_count a_t_open a_t_behind x_t_signs w_t_pad x_t_places x_t_begins x_t_court x_t_allowed w_t_weight x_t_sights w_t_sight fr1 w_t_outs w_t_pack w_t_image w_t_isKept x_t_page fr2 fr3 fr4) → va_S A s.heap H locs → W p l e (rmm 3 65) s m ([.ref a_t, .int p1, .int p2] : List Value).toArray below meth c H locs 0 0 Q (F0 m pc ls [.int fr0]) := by
    intro fr0 fr1 fr2 fr3 fr4 he
    cases he
    exact fin
  have L52 : ∀ (n52 : Nat) (v3 : Int32) (v4 : Int32) (v5 : Int32) (m_t_opens : Int32) (m_t_count : Nat → Int32) (m_t_open : Nat → Int32) (m_t_behind : Nat → Int32), f_X6_tree_52 p1 p2 x_t_places x_t_begins n52 v3 v4 v5 m_t_opens m_t_count m_t_open m_t_behind = some res → ∀ (H : Heap) (locs : List Loc) (ls : Array Slot), va_P E.1 vwCl (wd_X6_tree E a_t a_t_page a_t_count a_t_open a_t_behind x_t_signs w_t_pad x_t_places x_t_begins x_t_court x_t_allowed w_t_weight x_t_sights w_t_sight m_t_opens w_t_outs w_t_pack w_t_image w_t_isKept x_t_page m_t_count m_t_open m_t_behind) H → va_D A (wd_X6_tree E a_t a_t_page a_t_count a_t_open a_t_behind x_t_signs w_t_pad x_t_places x_t_begins x_t_court x_t_allowed w_t_weight x_t_sights w_t_sight m_t_opens w_t_outs w_t_pack w_t_image w_t_isKept x_t_page m_t_count m_t_open m_t_behind) → va_S A s.heap H locs → lv_has ls 6 [(0, .ref a_t), (1, .int p1), (2, .int p2), (3, .int v3), (4, .int v4), (5, .int v5)] → W p l e (rmm 3 65) s m ([.ref a_t, .int p1, .int p2] : List Value).toArray below meth c H locs 0 0 Q (F0 m 52 ls []) := by
    intro n52
    induction n52 with
    | zero => intro v3 v4 v5 m_t_opens m_t_count m_t_open m_t_behind hf; rw [f_X6_tree_52] at hf; cases hf
    | succ n52 ih52 =>
      have L86 : ∀ (v4 : Int32) (v5 : Int32) (s0 : Int32) (s1 : Int32) (m_t_opens : Int32) (m_t_count : Nat → Int32) (m_t_open : Nat → Int32) (m_t_behind : Nat → Int32), f_X6_tree_86 p1 (f_X6_tree_52 p1 p2 x_t_places x_t_begins n52) v4 v5 s0 s1 m_t_opens m_t_count m_t_open m_t_behind = some res → ∀ (H : Heap) (locs : List Loc) (ls : Array Slot), va_P E.1 vwCl (wd_X6_tree E a_t a_t_page a_t_count a_t_open a_t_behind x_t_signs w_t_pad x_t_places x_t_begins x_t_court x_t_allowed w_t_weight x_t_sights w_t_sight m_t_opens w_t_outs w_t_pack w_t_image w_t_isKept x_t_page m_t_count m_t_open m_t_behind) H → va_D A (wd_X6_tree E a_t a_t_page a_t_count a_t_open a_t_behind x_t_signs w_t_pad x_t_places x_t_begins x_t_court x_t_allowed w_t_weight x_t_sights w_t_sight m_t_opens w_t_outs w_t_pack w_t_image w_t_isKept x_t_page m_t_count m_t_open m_t_behind) → va_S A s.heap H locs → lv_has ls 6 [(0, .ref a_t), (1, .int p1), (2, .int p2), (4, .int v4), (5, .int v5)] → W p l e (rmm 3 65) s m ([.ref a_t, .int p1, .int p2] : List Value).toArray below meth c H locs 0 0 Q (F0 m 86 ls [.int s0, .int s1]) := by
        intro v4 v5 s0 s1 m_t_opens m_t_count m_t_open m_t_behind hf H locs ls hP hD hS hl
        rw [f_X6_tree_86] at hf
        refine lv_iadd hx hb dX6_tree_86 ?_
        refine lv_istore_n (lv' := [(3, .int (s1 + s0)), (0, .ref a_t), (1, .int p1), (2, .int p2), (4, .int v4), (5, .int v5)]) hx hb dX6_tree_87 rfl hl (by decide) rfl (fun ls hl => ?_)
        refine lv_iload hx hb dX6_tree_88 (lv_at hl 4 rfl) ?_
        refine lv_iload hx hb dX6_tree_90 (lv_at hl 5 rfl) ?_
        refine lv_aload_n hx hb dX6_tree_92 rfl (lv_at hl 1 rfl) ?_
        refine gf_X6_35 X hP 0 rfl rfl dX6_tree_93 ?_
        refine lv_iload hx hb dX6_tree_96 (lv_at hl 5 rfl) ?_
        obtain ⟨hi98, hf⟩ := ck_some hf
        refine r_iald X hP 2 rfl hi98 dX6_tree_98 ?_
        refine lv_iadd hx hb dX6_tree_99 ?_
        refine lv_iload_n hx hb dX6_tree_100 rfl (lv_at hl 2 rfl) ?_
        refine lv_icmp_ne (tgt := 108) hx hb dX6_tree_101 (by decide) (fun c_101 => ?_) (fun c_101 => ?_)
        · have hf := if_f c_101 hf
          refine lv_iconst (v := (0 : Int32)) hx hb dX6_tree_108 (by decide) ?_
          refine lv_iadd hx hb dX6_tree_109 ?_
          refine lv_istore (lv' := [(4, .int (v4 + (0 : Int32))), (3, .int (s1 + s0)), (0, .ref a_t), (1, .int p1), (2, .int p2), (5, .int v5)]) hx hb dX6_tree_110 hl (by decide) rfl (fun ls hl => ?_)
          refine lv_iinc (v := (v5 + (1 : Int32))) (lv' := [(5, .int (v5 + (1 : Int32))), (4, .int (v4 + (0 : Int32))), (3, .int (s1 + s0)), (0, .ref a_t), (1, .int p1), (2, .int p2)]) hx hb dX6_tree_112 hl (k := 5) rfl rfl (by decide) rfl (fun ls hl => ?_)
          refine lv_goto (tgt := 52) hx hb dX6_tree_115 (by decide) ?_
          exact ih52 (s1 + s0) (v4 + (0 : Int32)) (v5 + (1 : Int32)) m_t_opens m_t_count m_t_open m_t_behind hf H locs ls hP hD hS (lv_sub hl [3, 4, 5, 2, 1, 0] rfl)
        · have hf := if_t c_101 hf
          refine lv_iconst (v := (1 : Int32)) hx hb dX6_tree_104 (by decide) ?_
          refine lv_goto (tgt := 109) hx hb dX6_tree_105 (by decide) ?_
          refine lv_iadd hx hb dX6_tree_109 ?_
          refine lv_istore (lv' := [(4, .int (v4 + (1 : Int32))), (3, .int (s1 + s0)), (0, .ref a_t), (1, .int p1), (2, .int p2), (5, .int v5)]) hx hb dX6_tree_110 hl (by decide) rfl (fun ls hl => ?_)
          refine lv_iinc (v := (v5 + (1 : Int32))) (lv' := [(5, .int (v5 + (1 : Int32))), (4, .int (v4 + (1 : Int32))), (3, .int (s1 + s0)), (0, .ref a_t), (1, .int p1), (2, .int p2)]) hx hb dX6_tree_112 hl (k := 5) rfl rfl (by decide) rfl (fun ls hl => ?_)
          refine lv_goto (tgt := 52) hx hb dX6_tree_115 (by decide) ?_
          exact ih52 (s1 + s0) (v4 + (1 : Int32)) (v5 + (1 : Int32)) m_t_opens m_t_count m_t_open m_t_behind hf H locs ls hP hD hS (lv_sub hl [3, 4, 5, 2, 1, 0] rfl)
      intro v3 v4 v5 m_t_opens m_t_count m_t_open m_t_behind hf H locs ls hP hD hS hl
      rw [f_X6_tree_52] at hf
      refine lv_iload hx hb dX6_tree_52 (lv_at hl 5 rfl) ?_
      refine lv_aload_n hx hb dX6_tree_54 rfl (lv_at hl 0 rfl) ?_
      refine gf_X6_13 X hP 0 rfl rfl dX6_tree_55 ?_
      refine lv_icmp_ge (tgt := 118) hx hb dX6_tree_58 (by decide) (fun c_58 => ?_) (fun c_58 => ?_)
      · have hf := if_t c_58 hf
        refine lv_iload_n hx hb dX6_tree_118 rfl (lv_at hl 2 rfl) ?_
        refine lv_if_ne (tgt := 126) hx hb dX6_tree_119 (by decide) (fun c_119 => ?_) (fun c_119 => ?_)
        · have hf := if_f c_119 hf
          refine lv_iload_n hx hb dX6_tree_126 rfl (lv_at hl 2 rfl) ?_
          refine lv_iconst (v := (1 : Int32)) hx hb dX6_tree_127 (by decide) ?_
          refine lv_icmp_ne (tgt := 136) hx hb dX6_tree_128 (by decide) (fun c_128 => ?_) (fun c_128 => ?_)
          · have hf := if_f c_128 hf
            refine lv_aload_n hx hb dX6_tree_136 rfl (lv_at hl 0 rfl) ?_
            refine gf_X6_41 X hP 0 rfl rfl dX6_tree_137 ?_
            refine lv_iload_n hx hb dX6_tree_140 rfl (lv_at hl 1 rfl) ?_
            obtain ⟨hi141, hf⟩ := ck_some hf
            refine r_iald X hP 4 rfl hi141 dX6_tree_141 ?_
            exact fin' _ _ _ _ _ hf 142 ls H locs dX6_tree_142 rfl hP hD hS
          · have hf := if_t c_128 hf
            refine lv_iload hx hb dX6_tree_131 (lv_at hl 4 rfl) ?_
            refine lv_goto (tgt := 142) hx hb dX6_tree_133 (by decide) ?_
            exact fin' _ _ _ _ _ hf 142 ls H locs dX6_tree_142 rfl hP hD hS
        · have hf := if_t c_119 hf
          refine lv_iload_n hx hb dX6_tree_122 rfl (lv_at hl 3 rfl) ?_
          refine lv_goto (tgt := 142) hx hb dX6_tree_123 (by decide) ?_
          exact fin' _ _ _ _ _ hf 142 ls H locs dX6_tree_142 rfl hP hD hS
      · have hf := if_f c_58 hf
        refine lv_iload_n hx hb dX6_tree_61 rfl (lv_at hl 3 rfl) ?_
        refine lv_iload hx hb dX6_tree_62 (lv_at hl 5 rfl) ?_
        refine lv_aload_n hx hb dX6_tree_64 rfl (lv_at hl 0 rfl) ?_
        refine gf_X6_20 X hP 0 rfl rfl dX6_tree_65 ?_
        refine lv_icmp_ge (tgt := 85) hx hb dX6_tree_68 (by decide) (fun c_68 => ?_) (fun c_68 => ?_)
        · have hf := if_t c_68 hf
          refine lv_iconst (v := (0 : Int32)) hx hb dX6_tree_85 (by decide) ?_
          exact L86 v4 v5 (0 : Int32) v3 m_t_opens m_t_count m_t_open m_t_behind hf H locs ls hP hD hS (lv_sub hl [0, 1, 2, 4, 5] rfl)
        · have hf := if_f c_68 hf
          refine lv_aload_n hx hb dX6_tree_71 rfl (lv_at hl 0 rfl) ?_
          refine lv_iload hx hb dX6_tree_72 (lv_at hl 5 rfl) ?_
          refine lv_iload_n hx hb dX6_tree_74 rfl (lv_at hl 1 rfl) ?_
          obtain ⟨r75, hc75, hf⟩ := bd_some hf
          refine cV_I X hA hP hD hS hl.1 (c_X6_comesTo l E a_t a_t_count x_t_signs w_t_pad x_t_places (.ref a_t_page) x_t_begins x_t_court x_t_allowed w_t_weight x_t_sights w_t_sight m_t_opens (.ref a_t_open) (.ref a_t_behind) w_t_outs w_t_pack w_t_image w_t_isKept m_t_count v5 p1 r75 hc75) 2 k_789 mw_X6_comesTo hd_X6_comesTo ⟨Nat.le_of_ble_eq_true rfl, Nat.le_of_ble_eq_true rfl⟩ [0, 2] [1, 3, 4] [3, 0, 4, 1, 2] rfl rfl (wr := [1, 3, 4].filterMap (fun i => (wd_X6_tree E a_t a_t_page a_t_count a_t_open a_t_behind x_t_signs w_t_pad x_t_places x_t_begins x_t_court x_t_allowed w_t_weight x_t_sights w_t_sight m_t_opens w_t_outs w_t_pack w_t_image w_t_isKept x_t_page m_t_count m_t_open m_t_behind)[i]?)) rfl rfl rfl 6 0 rfl rfl rfl rfl rfl (Nat.le_of_ble_eq_true rfl) rfl (ws' := (wd_X6_tree E a_t a_t_page a_t_count a_t_open a_t_behind x_t_signs w_t_pad x_t_places x_t_begins x_t_court x_t_allowed w_t_weight x_t_sights w_t_sight m_t_opens w_t_outs w_t_pack w_t_image w_t_isKept x_t_page m_t_count m_t_open m_t_behind)) rfl ⟨Nat.le_of_ble_eq_true rfl, Nat.le_of_ble_eq_true rfl⟩ dX6_tree_75 (fun H locs hP hD hS => ?_)
          refine lv_if_eq (tgt := 85) hx hb dX6_tree_78 (by decide) (fun c_78 => ?_) (fun c_78 => ?_)
          · have hf := if_t c_78 hf
            refine lv_iconst (v := (0 : Int32)) hx hb dX6_tree_85 (by decide) ?_
            exact L86 v4 v5 (0 : Int32) v3 m_t_opens m_t_count m_t_open m_t_behind hf H locs ls hP hD hS (lv_sub hl [0, 1, 2, 4, 5] rfl)
          · have hf := if_f c_78 hf
            refine lv_iconst (v := (1 : Int32)) hx hb dX6_tree_81 (by decide) ?_
            refine lv_goto (tgt := 86) hx hb dX6_tree_82 (by decide) ?_
            exact L86 v4 v5 (1 : Int32) v3 m_t_opens m_t_count m_t_open m_t_behind hf H locs ls hP hD hS (lv_sub hl [0, 1, 2, 4, 5] rfl)
  have hS : va_S A s.heap s.heap [] := va_S.rf
  obtain ⟨H, hH9⟩ : ∃ z, z = s.heap := ⟨_, rfl⟩
  obtain ⟨locs, hL9⟩ : ∃ z : List Loc, z = [] := ⟨_, rfl⟩
  rw [← hL9]
  rw [← hL9] at hS
  have hP : va_P E.1 vwCl (wd_X6_tree E a_t a_t_page a_t_count a_t_open a_t_behind x_t_signs w_t_pad x_t_places x_t_begins x_t_court x_t_allowed w_t_weight x_t_sights w_t_sight x_t_opens w_t_outs w_t_pack w_t_image w_t_isKept x_t_page x_t_count x_t_open x_t_behind) H := by rw [hH9]; exact hP
  have hS : va_S A s.heap H locs := by rw [hH9]; exact hS
  suffices hgoal : W p l e (rmm 3 65) s m ([.ref a_t, .int p1, .int p2] : List Value).toArray below meth c H locs 0 0 Q (F0 m 0 ls []) by rw [hH9] at hgoal; exact hgoal
  rw [f_X6_tree] at hf
  refine lv_aload_n hx hb dX6_tree_0 rfl (lv_at hl 0 rfl) ?_
  refine lv_iload_n hx hb dX6_tree_1 rfl (lv_at hl 1 rfl) ?_
  obtain ⟨r2, hc2, hf⟩ := bd_some hf
  refine cV_I X hA hP hD hS hl.1 (c_X6_isPlace l E a_t x_t_signs w_t_pad x_t_places (.ref a_t_page) x_t_begins x_t_court x_t_allowed w_t_weight x_t_sights w_t_sight (.ref a_t_count) x_t_opens (.ref a_t_open) (.ref a_t_behind) w_t_outs w_t_pack w_t_image w_t_isKept p1 r2 hc2) 1 k_738 mw_X6_isPlace hd_X6_isPlace ⟨Nat.le_of_ble_eq_true rfl, Nat.le_of_ble_eq_true rfl⟩ [0] [1, 2, 3, 4] [4, 0, 1, 2, 3] rfl rfl (wr := [1, 2, 3, 4].filterMap (fun i => (wd_X6_tree E a_t a_t_page a_t_count a_t_open a_t_behind x_t_signs w_t_pad x_t_places x_t_begins x_t_court x_t_allowed w_t_weight x_t_sights w_t_sight x_t_opens w_t_outs w_t_pack w_t_image w_t_isKept x_t_page x_t_count x_t_open x_t_behind)[i]?)) rfl rfl rfl 6 0 rfl rfl rfl rfl rfl (Nat.le_of_ble_eq_true rfl) rfl (ws' := (wd_X6_tree E a_t a_t_page a_t_count a_t_open a_t_behind x_t_signs w_t_pad x_t_places x_t_begins x_t_court x_t_allowed w_t_weight x_t_sights w_t_sight x_t_opens w_t_outs w_t_pack w_t_image w_t_isKept x_t_page x_t_count x_t_open x_t_behind)) rfl ⟨Nat.le_of_ble_eq_true rfl, Nat.le_of_ble_eq_true rfl⟩ dX6_tree_2 (fun H locs hP hD hS => ?_)
  refine lv_if_ne (tgt := 10) hx hb dX6_tree_5 (by decide) (fun c_5 => ?_) (fun c_5 => ?_)
  · have hf := if_f c_5 hf
    refine lv_iload_n hx hb dX6_tree_10 rfl (lv_at hl 2 rfl) ?_
    refine lv_iconst (v := (0 : Int32)) hx hb dX6_tree_11 (by decide) ?_
    refine lv_iconst (v := (2 : Int32)) hx hb dX6_tree_12 (by decide) ?_
    obtain ⟨r13, hc13, hf⟩ := bd_some hf
    refine cS_I X hA hP hD hS hl.1 (c_X6_in l E p2 (0 : Int32) (2 : Int32) r13 hc13) 3 k_692 mw_X6_in hd_X6_in ⟨Nat.le_of_ble_eq_true rfl, Nat.le_of_ble_eq_true rfl⟩ [] [0, 1, 2, 3, 4] [0, 1, 2, 3, 4] rfl rfl (wr := [0, 1, 2, 3, 4].filterMap (fun i => (wd_X6_tree E a_t a_t_page a_t_count a_t_open a_t_behind x_t_signs w_t_pad x_t_places x_t_begins x_t_court x_t_allowed w_t_weight x_t_sights w_t_sight x_t_opens w_t_outs w_t_pack w_t_image w_t_isKept x_t_page x_t_count x_t_open x_t_behind)[i]?)) rfl rfl rfl rfl rfl (Nat.le_of_ble_eq_true rfl) rfl (ws' := (wd_X6_tree E a_t a_t_page a_t_count a_t_open a_t_behind x_t_signs w_t_pad x_t_places x_t_begins x_t_court x_t_allowed w_t_weight x_t_sights w_t_sight x_t_opens w_t_outs w_t_pack w_t_image w_t_isKept x_t_page x_t_count x_t_open x_t_behind)) rfl ⟨Nat.le_of_ble_eq_true rfl, Nat.le_of_ble_eq_true rfl⟩ dX6_tree_13 (fun H locs hP hD hS => ?_)
    refine lv_if_ne (tgt := 22) hx hb dX6_tree_16 (by decide) (fun c_16 => ?_) (fun c_16 => ?_)
    · have hf := if_f c_16 hf
      refine lv_aload_n hx hb dX6_tree_22 rfl (lv_at hl 0 rfl) ?_
      obtain ⟨r23, hc23, hf⟩ := bd_some hf
      refine cV_I X hA hP hD hS hl.1 (c_X6_isWhole l E a_t a_t_page x_t_signs w_t_pad x_t_places x_t_begins x_t_court x_t_allowed w_t_weight x_t_sights w_t_sight (.ref a_t_count) x_t_opens (.ref a_t_open) (.ref a_t_behind) w_t_outs w_t_pack w_t_image w_t_isKept x_t_page r23 hc23) 0 k_749 mw_X6_isWhole hd_X6_isWhole ⟨Nat.le_of_ble_eq_true rfl, Nat.le_of_ble_eq_true rfl⟩ [0, 1] [2, 3, 4] [3, 4, 0, 1, 2] rfl rfl (wr := [2, 3, 4].filterMap (fun i => (wd_X6_tree E a_t a_t_page a_t_count a_t_open a_t_behind x_t_signs w_t_pad x_t_places x_t_begins x_t_court x_t_allowed w_t_weight x_t_sights w_t_sight x_t_opens w_t_outs w_t_pack w_t_image w_t_isKept x_t_page x_t_count x_t_open x_t_behind)[i]?)) rfl rfl rfl 6 0 rfl rfl rfl rfl rfl (Nat.le_of_ble_eq_true rfl) rfl (ws' := (wd_X6_tree E a_t a_t_page a_t_count a_t_open a_t_behind x_t_signs w_t_pad x_t_places x_t_begins x_t_court x_t_allowed w_t_weight x_t_sights w_t_sight x_t_opens w_t_outs w_t_pack w_t_image w_t_isKept x_t_page x_t_count x_t_open x_t_behind)) rfl ⟨Nat.le_of_ble_eq_true rfl, Nat.le_of_ble_eq_true rfl⟩ dX6_tree_23 (fun H locs hP hD hS => ?_)
      refine lv_if_ne (tgt := 32) hx hb dX6_tree_26 (by decide) (fun c_26 => ?_) (fun c_26 => ?_)
      · have hf := if_f c_26 hf
        refine lv_aload_n hx hb dX6_tree_32 rfl (lv_at hl 0 rfl) ?_
        refine lv_aload_n hx hb dX6_tree_33 rfl (lv_at hl 0 rfl) ?_
        refine gf_X6_23 X hP 0 rfl rfl dX6_tree_34 ?_
        obtain ⟨r37, hc37, hf⟩ := bd_some hf
        refine cV_V X hA hP hD hS hl.1 (c_X6_lay l E a_t a_t_count a_t_page a_t_open x_t_signs w_t_pad x_t_places x_t_begins x_t_court x_t_allowed w_t_weight x_t_sights w_t_sight x_t_opens (.ref a_t_behind) w_t_outs w_t_pack w_t_image w_t_isKept x_t_count x_t_page x_t_open x_t_court r37 hc37) 1 k_757 mw_X6_lay hd_X6_lay ⟨Nat.le_of_ble_eq_true rfl, Nat.le_of_ble_eq_true rfl⟩ [0, 2, 1, 3] [4] [1, 3, 2, 4, 0] rfl rfl (wr := [4].filterMap (fun i => (wd_X6_tree E a_t a_t_page a_t_count a_t_open a_t_behind x_t_signs w_t_pad x_t_places x_t_begins x_t_court x_t_allowed w_t_weight x_t_sights w_t_sight x_t_opens w_t_outs w_t_pack w_t_image w_t_isKept x_t_page x_t_count x_t_open x_t_behind)[i]?)) rfl rfl rfl 6 0 rfl rfl rfl rfl rfl (Nat.le_of_ble_eq_true rfl) rfl (ws' := (wd_X6_tree E a_t a_t_page a_t_count a_t_open a_t_behind x_t_signs w_t_pad x_t_places x_t_begins x_t_court x_t_allowed w_t_weight x_t_sights w_t_sight r37.1 w_t_outs w_t_pack w_t_image w_t_isKept x_t_page r37.2.1 r37.2.2 x_t_behind)) rfl ⟨Nat.le_of_ble_eq_true rfl, Nat.le_of_ble_eq_true rfl⟩ dX6_tree_37 (fun H locs hP hD hS => ?_)
        refine lv_aload_n hx hb dX6_tree_40 rfl (lv_at hl 0 rfl) ?_
        obtain ⟨r41, hc41, hf⟩ := bd_some hf
        refine cV_V X hA hP hD hS hl.1 (c_X6_layBehind l E a_t a_t_behind a_t_count x_t_signs w_t_pad x_t_places (.ref a_t_page) x_t_begins x_t_court x_t_allowed w_t_weight x_t_sights w_t_sight r37.1 (.ref a_t_open) w_t_outs w_t_pack w_t_image w_t_isKept x_t_behind r37.2.1 r41 hc41) 0 k_797 mw_X6_layBehind hd_X6_layBehind ⟨Nat.le_of_ble_eq_true rfl, Nat.le_of_ble_eq_true rfl⟩ [0, 4, 2] [1, 3] [2, 0, 4, 1, 3] rfl rfl (wr := [1, 3].filterMap (fun i => (wd_X6_tree E a_t a_t_page a_t_count a_t_open a_t_behind x_t_signs w_t_pad x_t_places x_t_begins x_t_court x_t_allowed w_t_weight x_t_sights w_t_sight r37.1 w_t_outs w_t_pack w_t_image w_t_isKept x_t_page r37.2.1 r37.2.2 x_t_behind)[i]?)) rfl rfl rfl 6 0 rfl rfl rfl rfl rfl (Nat.le_of_ble_eq_true rfl) rfl (ws' := (wd_X6_tree E a_t a_t_page a_t_count a_t_open a_t_behind x_t_signs w_t_pad x_t_places x_t_begins x_t_court x_t_allowed w_t_weight x_t_sights w_t_sight r37.1 w_t_outs w_t_pack w_t_image w_t_isKept x_t_page r37.2.1 r37.2.2 r41)) rfl ⟨Nat.le_of_ble_eq_true rfl, Nat.le_of_ble_eq_true rfl⟩ dX6_tree_41 (fun H locs hP hD hS => ?_)
        refine lv_iconst (v := (0 : Int32)) hx hb dX6_tree_44 (by decide) ?_
        refine lv_istore_n (lv' := [(3, .int (0 : Int32)), (0, .ref a_t), (1, .int p1), (2, .int p2)]) hx hb dX6_tree_45 rfl hl (by decide) rfl (fun ls hl => ?_)
        refine lv_iconst (v := (0 : Int32)) hx hb dX6_tree_46 (by decide) ?_
        refine lv_istore (lv' := [(4, .int (0 : Int32)), (3, .int (0 : Int32)), (0, .ref a_t), (1, .int p1), (2, .int p2)]) hx hb dX6_tree_47 hl (by decide) rfl (fun ls hl => ?_)
        refine lv_iconst (v := (0 : Int32)) hx hb dX6_tree_49 (by decide) ?_
        refine lv_istore (lv' := [(5, .int (0 : Int32)), (4, .int (0 : Int32)), (3, .int (0 : Int32)), (0, .ref a_t), (1, .int p1), (2, .int p2)]) hx hb dX6_tree_50 hl (by decide) rfl (fun ls hl => ?_)
        exact L52 FU (0 : Int32) (0 : Int32) (0 : Int32) r37.1 r37.2.1 r37.2.2 r41 hf H locs ls hP hD hS (lv_sub hl [3, 4, 5, 2, 1, 0] rfl)
      · have hf := if_t c_26 hf
        refine lv_bipush (v := (-3 : Int32)) hx hb dX6_tree_29 (by decide) ?_
        exact fin' _ _ _ _ _ hf 31 ls H locs dX6_tree_31 rfl hP hD hS
    · have hf := if_t c_16 hf
      refine lv_bipush (v := (-2 : Int32)) hx hb dX6_tree_19 (by decide) ?_
      exact fin' _ _ _ _ _ hf 21 ls H locs dX6_tree_21 rfl hP hD hS
  · have hf := if_t c_5 hf
    refine lv_iconst (v := (-1 : Int32)) hx hb dX6_tree_8 (by decide) ?_
    exact fin' _ _ _ _ _ hf 9 ls H locs dX6_tree_9 rfl hP hD hS
abbrev wd_X6_nowhere (E : EN) (a_t : Nat) (a_t_page : Nat) (a_t_count : Nat) (a_t_open : Nat) (a_t_behind : Nat) (x_t_signs : Int32) (w_t_pad : Value) (x_t_places : Int32) (x_t_begins : Int32) (x_t_court : Int32) (x_t_allowed : Int32) (w_t_weight : Value) (x_t_sights : Int32) (w_t_sight : Value) (x_t_opens : Int32) (w_t_outs : Value) (w_t_pack : Value) (w_t_image : Value) (w_t_isKept : Value) (x_t_page : Nat → Int32) (x_t_count : Nat → Int32) (x_t_open : Nat → Int32) (x_t_behind : Nat → Int32) : va_W := [(a_t, e_O 6 [.int x_t_signs, w_t_pad, .int x_t_places, .ref a_t_page, .int x_t_begins, .int x_t_court, .int x_t_allowed, w_t_weight, .int x_t_sights, w_t_sight, .ref a_t_count, .int x_t_opens, .ref a_t_open, .ref a_t_behind, w_t_outs, w_t_pack, w_t_image, w_t_isKept]), (a_t_page, e_I E 40 x_t_page), (a_t_count, e_I E 40 x_t_count), (a_t_open, e_I E 5 x_t_open), (a_t_behind, e_I E 40 x_t_behind)]
def f_X6_nowhere_26 (x_t_places : Int32)  : Nat → Int32 → Int32 → Int32 → (Nat → Int32) → (Nat → Int32) → (Nat → Int32) → Option (Int32 × Int32 × (Nat → Int32) × (Nat → Int32) × (Nat → Int32))
  | 0, _, _, _, _, _, _ => none
  | n_ + 1, v1, v2, m_t_opens, m_t_count, m_t_open, m_t_behind =>
    if x_t_places ≤ v2 then
      some (v1, m_t_opens, m_t_count, m_t_open, m_t_behind)
    else
      ck (inB v2 40) (
      if (m_t_behind (ix v2)) = 0 then
        f_X6_nowhere_26 x_t_places n_ (v1 + (1 : Int32)) (v2 + (1 : Int32)) m_t_opens m_t_count m_t_open m_t_behind
      else
        f_X6_nowhere_26 x_t_places n_ (v1 + (0 : Int32)) (v2 + (1 : Int32)) m_t_opens m_t_count m_t_open m_t_behind)
def f_X6_nowhere (x_t_places : Int32) (x_t_court : Int32) (x_t_opens : Int32) (x_t_page : Nat → Int32) (x_t_count : Nat → Int32) (x_t_open : Nat → Int32) (x_t_behind : Nat → Int32) : Option (Int32 × Int32 × (Nat → Int32) × (Nat → Int32) × (Nat → Int32)) :=
  Option.bind (f_X6_isWhole x_t_places x_t_page) (fun r1 =>
  if r1 = 0 then
    some ((-3 : Int32), x_t_opens, x_t_count, x_t_open, x_t_behind)
  else
    Option.bind (f_X6_lay x_t_court x_t_places x_t_count x_t_page x_t_open) (fun r15 =>
    Option.bind (f_X6_layBehind x_t_places x_t_behind r15.2.1) (fun r19 =>
    f_X6_nowhere_26 x_t_places FU (0 : Int32) (0 : Int32) r15.1 r15.2.1 r15.2.2 r19)))
set_option maxHeartbeats 4000000 in
set_option maxRecDepth 100000 in
theorem c_X6_nowhere (l : Launch) (E : EN) (a_t a_t_page a_t_count a_t_open a_t_behind : Nat) (x_t_signs : Int32) (w_t_pad : Value) (x_t_places : Int32) (x_t_begins : Int32) (x_t_court : Int32) (x_t_allowed : Int32) (w_t_weight : Value) (x_t_sights : Int32) (w_t_sight : Value) (x_t_opens : Int32) (w_t_outs : Value) (w_t_pack : Value) (w_t_image : Value) (w_t_isKept : Value) (x_t_page : Nat → Int32) (x_t_count : Nat → Int32) (x_t_open : Nat → Int32) (x_t_behind : Nat → Int32)  (res : Int32 × Int32 × (Nat → Int32) × (Nat → Int32) × (Nat → Int32)) (hf : f_X6_nowhere x_t_places x_t_court x_t_opens x_t_page x_t_count x_t_open x_t_behind = some res) : CtI l yX6_nowhere cX6_nowhere 3 .int 3 65 E [.ref a_t] (wd_X6_nowhere E a_t a_t_page a_t_count a_t_open a_t_behind x_t_signs w_t_pad x_t_places x_t_begins x_t_court x_t_allowed w_t_weight x_t_sights w_t_sight x_t_opens w_t_outs w_t_pack w_t_image w_t_isKept x_t_page x_t_count x_t_open x_t_behind) (wd_X6_nowhere E a_t a_t_page a_t_count a_t_open a_t_behind x_t_signs w_t_pad x_t_places x_t_begins x_t_court x_t_allowed w_t_weight x_t_sights w_t_sight res.2.1 w_t_outs w_t_pack w_t_image w_t_isKept x_t_page res.2.2.1 res.2.2.2.1 res.2.2.2.2) res.1 := by
  refine CtI.of RX6 (by decide) rfl (Nat.le_of_ble_eq_true rfl) ?_
  intro p e s m below meth c A Q ls X hA hP hD hl fin
  have hx := X.1
  have hb := X.2.1
  have hl : lv_has ls 3 [(0, .ref a_t)] := hl
  have fin' : ∀ (fr0 : Int32) (fr1 : Int32) (fr2 : (Nat → Int32)) (fr3 : (Nat → Int32)) (fr4 : (Nat → Int32)), some (fr0, fr1, fr2, fr3, fr4) = some res → ∀ (pc : Nat) (ls : Array Slot) (H : Heap) (locs : List Loc), decode cX6_nowhere pc = .ok (.ireturn, 1) → narrow .int (.int fr0) = .int fr0 → va_P E.1 vwCl (wd_X6_nowhere E a_t a_t_page a_t_count a_t_open a_t_behind x_t_signs w_t_pad x_t_places x_t_begins x_t_court x_t_allowed w_t_weight x_t_sights w_t_sight fr1 w_t_outs w_t_pack w_t_image w_t_isKept x_t_page fr2 fr3 fr4) H → va_D A (wd_X6_nowhere E a_t a_t_page a_t_count a_t_open a_t_behind x_t_signs w_t_pad x_t_places x_t_begins x_t_court x_t_allowed w_t_weight x_t_sights w_t_sight fr1 w_t_outs w_t_pack w_t_image w_t_isKept x_t_page fr2 fr3 fr4) → va_S A s.heap H locs → W p l e (rmm 3 65) s m ([.ref a_t] : List Value).toArray below meth c H locs 0 0 Q (F0 m pc ls [.int fr0]) := by
    intro fr0 fr1 fr2 fr3 fr4 he
    cases he
    exact fin
  have L26 : ∀ (n26 : Nat) (v1 : Int32) (v2 : Int32) (m_t_opens : Int32) (m_t_count : Nat → Int32) (m_t_open : Nat → Int32) (m_t_behind : Nat → Int32), f_X6_nowhere_26 x_t_places n26 v1 v2 m_t_opens m_t_count m_t_open m_t_behind = some res → ∀ (H : Heap) (locs : List Loc) (ls : Array Slot), va_P E.1 vwCl (wd_X6_nowhere E a_t a_t_page a_t_count a_t_open a_t_behind x_t_signs w_t_pad x_t_places x_t_begins x_t_court x_t_allowed w_t_weight x_t_sights w_t_sight m_t_opens w_t_outs w_t_pack w_t_image w_t_isKept x_t_page m_t_count m_t_open m_t_behind) H → va_D A (wd_X6_nowhere E a_t a_t_page a_t_count a_t_open a_t_behind x_t_signs w_t_pad x_t_places x_t_begins x_t_court x_t_allowed w_t_weight x_t_sights w_t_sight m_t_opens w_t_outs w_t_pack w_t_image w_t_isKept x_t_page m_t_count m_t_open m_t_behind) → va_S A s.heap H locs → lv_has ls 3 [(0, .ref a_t), (1, .int v1), (2, .int v2)] → W p l e (rmm 3 65) s m ([.ref a_t] : List Value).toArray below meth c H locs 0 0 Q (F0 m 26 ls []) := by
    intro n26
    induction n26 with
    | zero => intro v1 v2 m_t_opens m_t_count m_t_open m_t_behind hf; rw [f_X6_nowhere_26] at hf; cases hf
    | succ n26 ih26 =>
      intro v1 v2 m_t_opens m_t_count m_t_open m_t_behind hf H locs ls hP hD hS hl
      rw [f_X6_nowhere_26] at hf
      refine lv_iload_n hx hb dX6_nowhere_26 rfl (lv_at hl 2 rfl) ?_
      refine lv_aload_n hx hb dX6_nowhere_27 rfl (lv_at hl 0 rfl) ?_
      refine gf_X6_13 X hP 0 rfl rfl dX6_nowhere_28 ?_
      refine lv_icmp_ge (tgt := 57) hx hb dX6_nowhere_31 (by decide) (fun c_31 => ?_) (fun c_31 => ?_)
      · have hf := if_t c_31 hf
        refine lv_iload_n hx hb dX6_nowhere_57 rfl (lv_at hl 1 rfl) ?_
        exact fin' _ _ _ _ _ hf 58 ls H locs dX6_nowhere_58 rfl hP hD hS
      · have hf := if_f c_31 hf
        refine lv_iload_n hx hb dX6_nowhere_34 rfl (lv_at hl 1 rfl) ?_
        refine lv_aload_n hx hb dX6_nowhere_35 rfl (lv_at hl 0 rfl) ?_
        refine gf_X6_41 X hP 0 rfl rfl dX6_nowhere_36 ?_
        refine lv_iload_n hx hb dX6_nowhere_39 rfl (lv_at hl 2 rfl) ?_
        obtain ⟨hi40, hf⟩ := ck_some hf
        refine r_iald X hP 4 rfl hi40 dX6_nowhere_40 ?_
        refine lv_if_ne (tgt := 48) hx hb dX6_nowhere_41 (by decide) (fun c_41 => ?_) (fun c_41 => ?_)
        · have hf := if_f c_41 hf
          refine lv_iconst (v := (0 : Int32)) hx hb dX6_nowhere_48 (by decide) ?_
          refine lv_iadd hx hb dX6_nowhere_49 ?_
          refine lv_istore_n (lv' := [(1, .int (v1 + (0 : Int32))), (0, .ref a_t), (2, .int v2)]) hx hb dX6_nowhere_50 rfl hl (by decide) rfl (fun ls hl => ?_)
          refine lv_iinc (v := (v2 + (1 : Int32))) (lv' := [(2, .int (v2 + (1 : Int32))), (1, .int (v1 + (0 : Int32))), (0, .ref a_t)]) hx hb dX6_nowhere_51 hl (k := 2) rfl rfl (by decide) rfl (fun ls hl => ?_)
          refine lv_goto (tgt := 26) hx hb dX6_nowhere_54 (by decide) ?_
          exact ih26 (v1 + (0 : Int32)) (v2 + (1 : Int32)) m_t_opens m_t_count m_t_open m_t_behind hf H locs ls hP hD hS (lv_sub hl [2, 1, 0] rfl)
        · have hf := if_t c_41 hf
          refine lv_iconst (v := (1 : Int32)) hx hb dX6_nowhere_44 (by decide) ?_
          refine lv_goto (tgt := 49) hx hb dX6_nowhere_45 (by decide) ?_
          refine lv_iadd hx hb dX6_nowhere_49 ?_
          refine lv_istore_n (lv' := [(1, .int (v1 + (1 : Int32))), (0, .ref a_t), (2, .int v2)]) hx hb dX6_nowhere_50 rfl hl (by decide) rfl (fun ls hl => ?_)
          refine lv_iinc (v := (v2 + (1 : Int32))) (lv' := [(2, .int (v2 + (1 : Int32))), (1, .int (v1 + (1 : Int32))), (0, .ref a_t)]) hx hb dX6_nowhere_51 hl (k := 2) rfl rfl (by decide) rfl (fun ls hl => ?_)
          refine lv_goto (tgt := 26) hx hb dX6_nowhere_54 (by decide) ?_
          exact ih26 (v1 + (1 : Int32)) (v2 + (1 : Int32)) m_t_opens m_t_count m_t_open m_t_behind hf H locs ls hP hD hS (lv_sub hl [2, 1, 0] rfl)
  have hS : va_S A s.heap s.heap [] := va_S.rf
  obtain ⟨H, hH9⟩ : ∃ z, z = s.heap := ⟨_, rfl⟩
  obtain ⟨locs, hL9⟩ : ∃ z : List Loc, z = [] := ⟨_, rfl⟩
  rw [← hL9]
  rw [← hL9] at hS
  have hP : va_P E.1 vwCl (wd_X6_nowhere E a_t a_t_page a_t_count a_t_open a_t_behind x_t_signs w_t_pad x_t_places x_t_begins x_t_court x_t_allowed w_t_weight x_t_sights w_t_sight x_t_opens w_t_outs w_t_pack w_t_image w_t_isKept x_t_page x_t_count x_t_open x_t_behind) H := by rw [hH9]; exact hP
  have hS : va_S A s.heap H locs := by rw [hH9]; exact hS
  suffices hgoal : W p l e (rmm 3 65) s m ([.ref a_t] : List Value).toArray below meth c H locs 0 0 Q (F0 m 0 ls []) by rw [hH9] at hgoal; exact hgoal
  rw [f_X6_nowhere] at hf
  refine lv_aload_n hx hb dX6_nowhere_0 rfl (lv_at hl 0 rfl) ?_
  obtain ⟨r1, hc1, hf⟩ := bd_some hf
  refine cV_I X hA hP hD hS hl.1 (c_X6_isWhole l E a_t a_t_page x_t_signs w_t_pad x_t_places x_t_begins x_t_court x_t_allowed w_t_weight x_t_sights w_t_sight (.ref a_t_count) x_t_opens (.ref a_t_open) (.ref a_t_behind) w_t_outs w_t_pack w_t_image w_t_isKept x_t_page r1 hc1) 0 k_749 mw_X6_isWhole hd_X6_isWhole ⟨Nat.le_of_ble_eq_true rfl, Nat.le_of_ble_eq_true rfl⟩ [0, 1] [2, 3, 4] [3, 4, 0, 1, 2] rfl rfl (wr := [2, 3, 4].filterMap (fun i => (wd_X6_nowhere E a_t a_t_page a_t_count a_t_open a_t_behind x_t_signs w_t_pad x_t_places x_t_begins x_t_court x_t_allowed w_t_weight x_t_sights w_t_sight x_t_opens w_t_outs w_t_pack w_t_image w_t_isKept x_t_page x_t_count x_t_open x_t_behind)[i]?)) rfl rfl rfl 6 0 rfl rfl rfl rfl rfl (Nat.le_of_ble_eq_true rfl) rfl (ws' := (wd_X6_nowhere E a_t a_t_page a_t_count a_t_open a_t_behind x_t_signs w_t_pad x_t_places x_t_begins x_t_court x_t_allowed w_t_weight x_t_sights w_t_sight x_t_opens w_t_outs w_t_pack w_t_image w_t_isKept x_t_page x_t_count x_t_open x_t_behind)) rfl ⟨Nat.le_of_ble_eq_true rfl, Nat.le_of_ble_eq_true rfl⟩ dX6_nowhere_1 (fun H locs hP hD hS => ?_)
  refine lv_if_ne (tgt := 10) hx hb dX6_nowhere_4 (by decide) (fun c_4 => ?_) (fun c_4 => ?_)
  · have hf := if_f c_4 hf
    refine lv_aload_n hx hb dX6_nowhere_10 rfl (lv_at hl 0 rfl) ?_
    refine lv_aload_n hx hb dX6_nowhere_11 rfl (lv_at hl 0 rfl) ?_
    refine gf_X6_23 X hP 0 rfl rfl dX6_nowhere_12 ?_
    obtain ⟨r15, hc15, hf⟩ := bd_some hf
    refine cV_V X hA hP hD hS hl.1 (c_X6_lay l E a_t a_t_count a_t_page a_t_open x_t_signs w_t_pad x_t_places x_t_begins x_t_court x_t_allowed w_t_weight x_t_sights w_t_sight x_t_opens (.ref a_t_behind) w_t_outs w_t_pack w_t_image w_t_isKept x_t_count x_t_page x_t_open x_t_court r15 hc15) 1 k_757 mw_X6_lay hd_X6_lay ⟨Nat.le_of_ble_eq_true rfl, Nat.le_of_ble_eq_true rfl⟩ [0, 2, 1, 3] [4] [1, 3, 2, 4, 0] rfl rfl (wr := [4].filterMap (fun i => (wd_X6_nowhere E a_t a_t_page a_t_count a_t_open a_t_behind x_t_signs w_t_pad x_t_places x_t_begins x_t_court x_t_allowed w_t_weight x_t_sights w_t_sight x_t_opens w_t_outs w_t_pack w_t_image w_t_isKept x_t_page x_t_count x_t_open x_t_behind)[i]?)) rfl rfl rfl 6 0 rfl rfl rfl rfl rfl (Nat.le_of_ble_eq_true rfl) rfl (ws' := (wd_X6_nowhere E a_t a_t_page a_t_count a_t_open a_t_behind x_t_signs w_t_pad x_t_places x_t_begins x_t_court x_t_allowed w_t_weight x_t_sights w_t_sight r15.1 w_t_outs w_t_pack w_t_image w_t_isKept x_t_page r15.2.1 r15.2.2 x_t_behind)) rfl ⟨Nat.le_of_ble_eq_true rfl, Nat.le_of_ble_eq_true rfl⟩ dX6_nowhere_15 (fun H locs hP hD hS => ?_)
    refine lv_aload_n hx hb dX6_nowhere_18 rfl (lv_at hl 0 rfl) ?_
    obtain ⟨r19, hc19, hf⟩ := bd_some hf
    refine cV_V X hA hP hD hS hl.1 (c_X6_layBehind l E a_t a_t_behind a_t_count x_t_signs w_t_pad x_t_places (.ref a_t_page) x_t_begins x_t_court x_t_allowed w_t_weight x_t_sights w_t_sight r15.1 (.ref a_t_open) w_t_outs w_t_pack w_t_image w_t_isKept x_t_behind r15.2.1 r19 hc19) 0 k_797 mw_X6_layBehind hd_X6_layBehind ⟨Nat.le_of_ble_eq_true rfl, Nat.le_of_ble_eq_true rfl⟩ [0, 4, 2] [1, 3] [2, 0, 4, 1, 3] rfl rfl (wr := [1, 3].filterMap (fun i => (wd_X6_nowhere E a_t a_t_page a_t_count a_t_open a_t_behind x_t_signs w_t_pad x_t_places x_t_begins x_t_court x_t_allowed w_t_weight x_t_sights w_t_sight r15.1 w_t_outs w_t_pack w_t_image w_t_isKept x_t_page r15.2.1 r15.2.2 x_t_behind)[i]?)) rfl rfl rfl 6 0 rfl rfl rfl rfl rfl (Nat.le_of_ble_eq_true rfl) rfl (ws' := (wd_X6_nowhere E a_t a_t_page a_t_count a_t_open a_t_behind x_t_signs w_t_pad x_t_places x_t_begins x_t_court x_t_allowed w_t_weight x_t_sights w_t_sight r15.1 w_t_outs w_t_pack w_t_image w_t_isKept x_t_page r15.2.1 r15.2.2 r19)) rfl ⟨Nat.le_of_ble_eq_true rfl, Nat.le_of_ble_eq_true rfl⟩ dX6_nowhere_19 (fun H locs hP hD hS => ?_)
    refine lv_iconst (v := (0 : Int32)) hx hb dX6_nowhere_22 (by decide) ?_
    refine lv_istore_n (lv' := [(1, .int (0 : Int32)), (0, .ref a_t)]) hx hb dX6_nowhere_23 rfl hl (by decide) rfl (fun ls hl => ?_)
    refine lv_iconst (v := (0 : Int32)) hx hb dX6_nowhere_24 (by decide) ?_
    refine lv_istore_n (lv' := [(2, .int (0 : Int32)), (1, .int (0 : Int32)), (0, .ref a_t)]) hx hb dX6_nowhere_25 rfl hl (by decide) rfl (fun ls hl => ?_)
    exact L26 FU (0 : Int32) (0 : Int32) r15.1 r15.2.1 r15.2.2 r19 hf H locs ls hP hD hS (lv_sub hl [2, 1, 0] rfl)
  · have hf := if_t c_4 hf
    refine lv_bipush (v := (-3 : Int32)) hx hb dX6_nowhere_7 (by decide) ?_
    exact fin' _ _ _ _ _ hf 9 ls H locs dX6_nowhere_9 rfl hP hD hS
abbrev wd_X6_keepOuts (E : EN) (a_t : Nat) (a_t_outs : Nat) (a_t_count : Nat) (x_t_signs : Int32) (w_t_pad : Value) (x_t_places : Int32) (w_t_page : Value) (x_t_begins : Int32) (x_t_court : Int32) (x_t_allowed : Int32) (w_t_weight : Value) (x_t_sights : Int32) (w_t_sight : Value) (x_t_opens : Int32) (w_t_open : Value) (w_t_behind : Value) (w_t_pack : Value) (w_t_image : Value) (w_t_isKept : Value) (x_t_outs : Nat → Int32) (x_t_count : Nat → Int32) : va_W := [(a_t, e_O 6 [.int x_t_signs, w_t_pad, .int x_t_places, w_t_page, .int x_t_begins, .int x_t_court, .int x_t_allowed, w_t_weight, .int x_t_sights, w_t_sight, .ref a_t_count, .int x_t_opens, w_t_open, w_t_behind, .ref a_t_outs, w_t_pack, w_t_image, w_t_isKept]), (a_t_outs, e_I E 10 x_t_outs), (a_t_count, e_I E 40 x_t_count)]
def f_X6_keepOuts_2 (x_t_places : Int32) (x_t_begins : Int32) (x_t_count : Nat → Int32)  : Nat → Int32 → (Nat → Int32) → Option ((Nat → Int32))
  | 0, _, _ => none
  | n_ + 1, v1, m_t_outs =>
    if x_t_begins ≤ v1 then
      some m_t_outs
    else
      Option.bind (f_X6_outOf v1 x_t_places x_t_count) (fun r17 =>
      ck (inB v1 10) (
      f_X6_keepOuts_2 x_t_places x_t_begins x_t_count n_ (v1 + (1 : Int32)) (upd m_t_outs (ix v1) r17)))
def f_X6_keepOuts (x_t_places : Int32) (x_t_begins : Int32) (x_t_outs : Nat → Int32) (x_t_count : Nat → Int32) : Option ((Nat → Int32)) :=
  f_X6_keepOuts_2 x_t_places x_t_begins x_t_count FU (0 : Int32) x_t_outs
set_option maxHeartbeats 4000000 in
set_option maxRecDepth 100000 in
theorem c_X6_keepOuts (l : Launch) (E : EN) (a_t a_t_outs a_t_count : Nat) (x_t_signs : Int32) (w_t_pad : Value) (x_t_places : Int32) (w_t_page : Value) (x_t_begins : Int32) (x_t_court : Int32) (x_t_allowed : Int32) (w_t_weight : Value) (x_t_sights : Int32) (w_t_sight : Value) (x_t_opens : Int32) (w_t_open : Value) (w_t_behind : Value) (w_t_pack : Value) (w_t_image : Value) (w_t_isKept : Value) (x_t_outs : Nat → Int32) (x_t_count : Nat → Int32)  (res : (Nat → Int32)) (hf : f_X6_keepOuts x_t_places x_t_begins x_t_outs x_t_count = some res) : CtV l yX6_keepOuts cX6_keepOuts 2 1 22 E [.ref a_t] (wd_X6_keepOuts E a_t a_t_outs a_t_count x_t_signs w_t_pad x_t_places w_t_page x_t_begins x_t_court x_t_allowed w_t_weight x_t_sights w_t_sight x_t_opens w_t_open w_t_behind w_t_pack w_t_image w_t_isKept x_t_outs x_t_count) (wd_X6_keepOuts E a_t a_t_outs a_t_count x_t_signs w_t_pad x_t_places w_t_page x_t_begins x_t_court x_t_allowed w_t_weight x_t_sights w_t_sight x_t_opens w_t_open w_t_behind w_t_pack w_t_image w_t_isKept res x_t_count) := by
  refine CtV.of RX6 (by decide) rfl (Nat.le_of_ble_eq_true rfl) ?_
  intro p e s m below meth c A Q ls X hA hP hD hl fin
  have hx := X.1
  have hb := X.2.1
  have hl : lv_has ls 2 [(0, .ref a_t)] := hl
  have fin' : ∀ (fr0 : (Nat → Int32)), some fr0 = some res → ∀ (pc : Nat) (ls : Array Slot) (H : Heap) (locs : List Loc), decode cX6_keepOuts pc = .ok (.return_, 1) → va_P E.1 vwCl (wd_X6_keepOuts E a_t a_t_outs a_t_count x_t_signs w_t_pad x_t_places w_t_page x_t_begins x_t_court x_t_allowed w_t_weight x_t_sights w_t_sight x_t_opens w_t_open w_t_behind w_t_pack w_t_image w_t_isKept fr0 x_t_count) H → va_D A (wd_X6_keepOuts E a_t a_t_outs a_t_count x_t_signs w_t_pad x_t_places w_t_page x_t_begins x_t_court x_t_allowed w_t_weight x_t_sights w_t_sight x_t_opens w_t_open w_t_behind w_t_pack w_t_image w_t_isKept fr0 x_t_count) → va_S A s.heap H locs → W p l e (rmm 1 22) s m ([.ref a_t] : List Value).toArray below meth c H locs 0 0 Q (F0 m pc ls []) := by
    intro fr0 he
    cases he
    exact fin
  have L2 : ∀ (n2 : Nat) (v1 : Int32) (m_t_outs : Nat → Int32), f_X6_keepOuts_2 x_t_places x_t_begins x_t_count n2 v1 m_t_outs = some res → ∀ (H : Heap) (locs : List Loc) (ls : Array Slot), va_P E.1 vwCl (wd_X6_keepOuts E a_t a_t_outs a_t_count x_t_signs w_t_pad x_t_places w_t_page x_t_begins x_t_court x_t_allowed w_t_weight x_t_sights w_t_sight x_t_opens w_t_open w_t_behind w_t_pack w_t_image w_t_isKept m_t_outs x_t_count) H → va_D A (wd_X6_keepOuts E a_t a_t_outs a_t_count x_t_signs w_t_pad x_t_places w_t_page x_t_begins x_t_court x_t_allowed w_t_weight x_t_sights w_t_sight x_t_opens w_t_open w_t_behind w_t_pack w_t_image w_t_isKept m_t_outs x_t_count) → va_S A s.heap H locs → lv_has ls 2 [(0, .ref a_t), (1, .int v1)] → W p l e (rmm 1 22) s m ([.ref a_t] : List Value).toArray below meth c H locs 0 0 Q (F0 m 2 ls []) := by
    intro n2
    induction n2 with
    | zero => intro v1 m_t_outs hf; rw [f_X6_keepOuts_2] at hf; cases hf
    | succ n2 ih2 =>
      intro v1 m_t_outs hf H locs ls hP hD hS hl
      rw [f_X6_keepOuts_2] at hf
      refine lv_iload_n hx hb dX6_keepOuts_2 rfl (lv_at hl 1 rfl) ?_
      refine lv_aload_n hx hb dX6_keepOuts_3 rfl (lv_at hl 0 rfl) ?_
      refine gf_X6_20 X hP 0 rfl rfl dX6_keepOuts_4 ?_
      refine lv_icmp_ge (tgt := 27) hx hb dX6_keepOuts_7 (by decide) (fun c_7 => ?_) (fun c_7 => ?_)
      · have hf := if_t c_7 hf
        exact fin' _ hf 27 ls H locs dX6_keepOuts_27 hP hD hS
      · have hf := if_f c_7 hf
        refine lv_aload_n hx hb dX6_keepOuts_10 rfl (lv_at hl 0 rfl) ?_
        refine gf_X6_44 X hP 0 rfl rfl dX6_keepOuts_11 ?_
        refine lv_iload_n hx hb dX6_keepOuts_14 rfl (lv_at hl 1 rfl) ?_
        refine lv_aload_n hx hb dX6_keepOuts_15 rfl (lv_at hl 0 rfl) ?_
        refine lv_iload_n hx hb dX6_keepOuts_16 rfl (lv_at hl 1 rfl) ?_
        obtain ⟨r17, hc17, hf⟩ := bd_some hf
        refine cV_I X hA hP hD hS hl.1 (c_X6_outOf l E a_t a_t_count x_t_signs w_t_pad x_t_places w_t_page x_t_begins x_t_court x_t_allowed w_t_weight x_t_sights w_t_sight x_t_opens w_t_open w_t_behind (.ref a_t_outs) w_t_pack w_t_image w_t_isKept x_t_count v1 r17 hc17) 1 k_761 mw_X6_outOf hd_X6_outOf ⟨Nat.le_of_ble_eq_true rfl, Nat.le_of_ble_eq_true rfl⟩ [0, 2] [1] [1, 0, 2] rfl rfl (wr := [1].filterMap (fun i => (wd_X6_keepOuts E a_t a_t_outs a_t_count x_t_signs w_t_pad x_t_places w_t_page x_t_begins x_t_court x_t_allowed w_t_weight x_t_sights w_t_sight x_t_opens w_t_open w_t_behind w_t_pack w_t_image w_t_isKept m_t_outs x_t_count)[i]?)) rfl rfl rfl 6 0 rfl rfl rfl rfl rfl (Nat.le_of_ble_eq_true rfl) rfl (ws' := (wd_X6_keepOuts E a_t a_t_outs a_t_count x_t_signs w_t_pad x_t_places w_t_page x_t_begins x_t_court x_t_allowed w_t_weight x_t_sights w_t_sight x_t_opens w_t_open w_t_behind w_t_pack w_t_image w_t_isKept m_t_outs x_t_count)) rfl ⟨Nat.le_of_ble_eq_true rfl, Nat.le_of_ble_eq_true rfl⟩ dX6_keepOuts_17 (fun H locs hP hD hS => ?_)
        obtain ⟨hi20, hf⟩ := ck_some hf
        refine r_iast X hP hD hS 1 rfl hi20 (ws' := (wd_X6_keepOuts E a_t a_t_outs a_t_count x_t_signs w_t_pad x_t_places w_t_page x_t_begins x_t_court x_t_allowed w_t_weight x_t_sights w_t_sight x_t_opens w_t_open w_t_behind w_t_pack w_t_image w_t_isKept (upd m_t_outs (ix v1) r17) x_t_count)) rfl dX6_keepOuts_20 (fun H locs hP hD hS => ?_)
        refine lv_iinc (v := (v1 + (1 : Int32))) (lv' := [(1, .int (v1 + (1 : Int32))), (0, .ref a_t)]) hx hb dX6_keepOuts_21 hl (k := 1) rfl rfl (by decide) rfl (fun ls hl => ?_)
        refine lv_goto (tgt := 2) hx hb dX6_keepOuts_24 (by decide) ?_
        exact ih2 (v1 + (1 : Int32)) (upd m_t_outs (ix v1) r17) hf H locs ls hP hD hS (lv_sub hl [1, 0] rfl)
  have hS : va_S A s.heap s.heap [] := va_S.rf
  obtain ⟨H, hH9⟩ : ∃ z, z = s.heap := ⟨_, rfl⟩
  obtain ⟨locs, hL9⟩ : ∃ z : List Loc, z = [] := ⟨_, rfl⟩
  rw [← hL9]
  rw [← hL9] at hS
  have hP : va_P E.1 vwCl (wd_X6_keepOuts E a_t a_t_outs a_t_count x_t_signs w_t_pad x_t_places w_t_page x_t_begins x_t_court x_t_allowed w_t_weight x_t_sights w_t_sight x_t_opens w_t_open w_t_behind w_t_pack w_t_image w_t_isKept x_t_outs x_t_count) H := by rw [hH9]; exact hP
  have hS : va_S A s.heap H locs := by rw [hH9]; exact hS
  suffices hgoal : W p l e (rmm 1 22) s m ([.ref a_t] : List Value).toArray below meth c H locs 0 0 Q (F0 m 0 ls []) by rw [hH9] at hgoal; exact hgoal
  rw [f_X6_keepOuts] at hf
  refine lv_iconst (v := (0 : Int32)) hx hb dX6_keepOuts_0 (by decide) ?_
  refine lv_istore_n (lv' := [(1, .int (0 : Int32)), (0, .ref a_t)]) hx hb dX6_keepOuts_1 rfl hl (by decide) rfl (fun ls hl => ?_)
  exact L2 FU (0 : Int32) x_t_outs hf H locs ls hP hD hS (lv_sub hl [1, 0] rfl)
abbrev wd_X6_mindsBy (E : EN) (a_t : Nat) (a_t_count : Nat) (a_t_outs : Nat) (x_t_signs : Int32) (w_t_pad : Value) (x_t_places : Int32) (w_t_page : Value) (x_t_begins : Int32) (x_t_court : Int32) (x_t_allowed : Int32) (w_t_weight : Value) (x_t_sights : Int32) (w_t_sight : Value) (x_t_opens : Int32) (w_t_open : Value) (w_t_behind : Value) (w_t_pack : Value) (w_t_image : Value) (w_t_isKept : Value) (x_t_count : Nat → Int32) (x_t_outs : Nat → Int32) : va_W := [(a_t, e_O 6 [.int x_t_signs, w_t_pad, .int x_t_places, w_t_page, .int x_t_begins, .int x_t_court, .int x_t_allowed, w_t_weight, .int x_t_sights, w_t_sight, .ref a_t_count, .int x_t_opens, w_t_open, w_t_behind, .ref a_t_outs, w_t_pack, w_t_image, w_t_isKept]), (a_t_count, e_I E 40 x_t_count), (a_t_outs, e_I E 10 x_t_outs)]
def f_X6_mindsBy_20 (p1 : Int32) (x_t_places : Int32) (x_t_begins : Int32) (x_t_outs : Nat → Int32)  : Nat → Int32 → Int32 → Int32 → (Nat → Int32) → Option (Int32 × (Nat → Int32))
  | 0, _, _, _, _ => none
  | n_ + 1, v3, v4, v5, m_t_count =>
    if x_t_begins ≤ v5 then
      ck (inB p1 40) (
      some (v4, (upd m_t_count (ix p1) v3)))
    else
      Option.bind (f_X6_outOf v5 x_t_places m_t_count) (fun r34 =>
      ck (inB v5 10) (
      if r34 = (x_t_outs (ix v5)) then
        f_X6_mindsBy_20 p1 x_t_places x_t_begins x_t_outs n_ v3 (v4 + (0 : Int32)) (v5 + (1 : Int32)) m_t_count
      else
        f_X6_mindsBy_20 p1 x_t_places x_t_begins x_t_outs n_ v3 (v4 + (1 : Int32)) (v5 + (1 : Int32)) m_t_count))
def f_X6_mindsBy (p1 : Int32) (p2 : Int32) (x_t_places : Int32) (x_t_begins : Int32) (x_t_count : Nat → Int32) (x_t_outs : Nat → Int32) : Option (Int32 × (Nat → Int32)) :=
  ck (inB p1 40) (
  f_X6_mindsBy_20 p1 x_t_places x_t_begins x_t_outs FU (x_t_count (ix p1)) (0 : Int32) (0 : Int32) (upd x_t_count (ix p1) p2))
set_option maxHeartbeats 4000000 in
set_option maxRecDepth 100000 in
theorem c_X6_mindsBy (l : Launch) (E : EN) (a_t a_t_count a_t_outs : Nat) (x_t_signs : Int32) (w_t_pad : Value) (x_t_places : Int32) (w_t_page : Value) (x_t_begins : Int32) (x_t_court : Int32) (x_t_allowed : Int32) (w_t_weight : Value) (x_t_sights : Int32) (w_t_sight : Value) (x_t_opens : Int32) (w_t_open : Value) (w_t_behind : Value) (w_t_pack : Value) (w_t_image : Value) (w_t_isKept : Value) (x_t_count : Nat → Int32) (x_t_outs : Nat → Int32) (p1 : Int32) (p2 : Int32) (res : Int32 × (Nat → Int32)) (hf : f_X6_mindsBy p1 p2 x_t_places x_t_begins x_t_count x_t_outs = some res) : CtI l yX6_mindsBy cX6_mindsBy 6 .int 1 22 E [.ref a_t, .int p1, .int p2] (wd_X6_mindsBy E a_t a_t_count a_t_outs x_t_signs w_t_pad x_t_places w_t_page x_t_begins x_t_court x_t_allowed w_t_weight x_t_sights w_t_sight x_t_opens w_t_open w_t_behind w_t_pack w_t_image w_t_isKept x_t_count x_t_outs) (wd_X6_mindsBy E a_t a_t_count a_t_outs x_t_signs w_t_pad x_t_places w_t_page x_t_begins x_t_court x_t_allowed w_t_weight x_t_sights w_t_sight x_t_opens w_t_open w_t_behind w_t_pack w_t_image w_t_isKept res.2 x_t_outs) res.1 := by
  refine CtI.of RX6 (by decide) rfl (Nat.le_of_ble_eq_true rfl) ?_
  intro p e s m below meth c A Q ls X hA hP hD hl fin
  have hx := X.1
  have hb := X.2.1
  have hl : lv_has ls 6 [(0, .ref a_t), (1, .int p1), (2, .int p2)] := hl
  have fin' : ∀ (fr0 : Int32) (fr1 : (Nat → Int32)), some (fr0, fr1) = some res → ∀ (pc : Nat) (ls : Array Slot) (H : Heap) (locs : List Loc), decode cX6_mindsBy pc = .ok (.ireturn, 1) → narrow .int (.int fr0) = .int fr0 → va_P E.1 vwCl (wd_X6_mindsBy E a_t a_t_count a_t_outs x_t_signs w_t_pad x_t_places w_t_page x_t_begins x_t_court x_t_allowed w_t_weight x_t_sights w_t_sight x_t_opens w_t_open w_t_behind w_t_pack w_t_image w_t_isKept fr1 x_t_outs) H → va_D A (wd_X6_mindsBy E a_t a_t_count a_t_outs x_t_signs w_t_pad x_t_places w_t_page x_t_begins x_t_court x_t_allowed w_t_weight x_t_sights w_t_sight x_t_opens w_t_open w_t_behind w_t_pack w_t_image w_t_isKept fr1 x_t_outs) → va_S A s.heap H locs → W p l e (rmm 1 22) s m ([.ref a_t, .int p1, .int p2] : List Value).toArray below meth c H locs 0 0 Q (F0 m pc ls [.int fr0]) := by
    intro fr0 fr1 he
    cases he
    exact fin
  have L20 : ∀ (n20 : Nat) (v3 : Int32) (v4 : Int32) (v5 : Int32) (m_t_count : Nat → Int32), f_X6_mindsBy_20 p1 x_t_places x_t_begins x_t_outs n20 v3 v4 v5 m_t_count = some res → ∀ (H : Heap) (locs : List Loc) (ls : Array Slot), va_P E.1 vwCl (wd_X6_mindsBy E a_t a_t_count a_t_outs x_t_signs w_t_pad x_t_places w_t_page x_t_begins x_t_court x_t_allowed w_t_weight x_t_sights w_t_sight x_t_opens w_t_open w_t_behind w_t_pack w_t_image w_t_isKept m_t_count x_t_outs) H → va_D A (wd_X6_mindsBy E a_t a_t_count a_t_outs x_t_signs w_t_pad x_t_places w_t_page x_t_begins x_t_court x_t_allowed w_t_weight x_t_sights w_t_sight x_t_opens w_t_open w_t_behind w_t_pack w_t_image w_t_isKept m_t_count x_t_outs) → va_S A s.heap H locs → lv_has ls 6 [(0, .ref a_t), (1, .int p1), (3, .int v3), (4, .int v4), (5, .int v5)] → W p l e (rmm 1 22) s m ([.ref a_t, .int p1, .int p2] : List Value).toArray below meth c H locs 0 0 Q (F0 m 20 ls []) := by
    intro n20
    induction n20 with
    | zero => intro v3 v4 v5 m_t_count hf; rw [f_X6_mindsBy_20] at hf; cases hf
    | succ n20 ih20 =>
      intro v3 v4 v5 m_t_count hf H locs ls hP hD hS hl
      rw [f_X6_mindsBy_20] at hf
      refine lv_iload hx hb dX6_mindsBy_20 (lv_at hl 4 rfl) ?_
      refine lv_aload_n hx hb dX6_mindsBy_22 rfl (lv_at hl 0 rfl) ?_
      refine gf_X6_20 X hP 0 rfl rfl dX6_mindsBy_23 ?_
      refine lv_icmp_ge (tgt := 61) hx hb dX6_mindsBy_26 (by decide) (fun c_26 => ?_) (fun c_26 => ?_)
      · have hf := if_t c_26 hf
        refine lv_aload_n hx hb dX6_mindsBy_61 rfl (lv_at hl 0 rfl) ?_
        refine gf_X6_35 X hP 0 rfl rfl dX6_mindsBy_62 ?_
        refine lv_iload_n hx hb dX6_mindsBy_65 rfl (lv_at hl 1 rfl) ?_
        refine lv_iload_n hx hb dX6_mindsBy_66 rfl (lv_at hl 2 rfl) ?_
        obtain ⟨hi67, hf⟩ := ck_some hf
        refine r_iast X hP hD hS 1 rfl hi67 (ws' := (wd_X6_mindsBy E a_t a_t_count a_t_outs x_t_signs w_t_pad x_t_places w_t_page x_t_begins x_t_court x_t_allowed w_t_weight x_t_sights w_t_sight x_t_opens w_t_open w_t_behind w_t_pack w_t_image w_t_isKept (upd m_t_count (ix p1) v3) x_t_outs)) rfl dX6_mindsBy_67 (fun H locs hP hD hS => ?_)
        refine lv_iload hx hb dX6_mindsBy_68 (lv_at hl 3 rfl) ?_
        exact fin' _ _ hf 70 ls H locs dX6_mindsBy_70 rfl hP hD hS
      · have hf := if_f c_26 hf
        refine lv_iload hx hb dX6_mindsBy_29 (lv_at hl 3 rfl) ?_
        refine lv_aload_n hx hb dX6_mindsBy_31 rfl (lv_at hl 0 rfl) ?_
        refine lv_iload hx hb dX6_mindsBy_32 (lv_at hl 4 rfl) ?_
        obtain ⟨r34, hc34, hf⟩ := bd_some hf
        refine cV_I X hA hP hD hS hl.1 (c_X6_outOf l E a_t a_t_count x_t_signs w_t_pad x_t_places w_t_page x_t_begins x_t_court x_t_allowed w_t_weight x_t_sights w_t_sight x_t_opens w_t_open w_t_behind (.ref a_t_outs) w_t_pack w_t_image w_t_isKept m_t_count v5 r34 hc34) 1 k_761 mw_X6_outOf hd_X6_outOf ⟨Nat.le_of_ble_eq_true rfl, Nat.le_of_ble_eq_true rfl⟩ [0, 1] [2] [1, 2, 0] rfl rfl (wr := [2].filterMap (fun i => (wd_X6_mindsBy E a_t a_t_count a_t_outs x_t_signs w_t_pad x_t_places w_t_page x_t_begins x_t_court x_t_allowed w_t_weight x_t_sights w_t_sight x_t_opens w_t_open w_t_behind w_t_pack w_t_image w_t_isKept m_t_count x_t_outs)[i]?)) rfl rfl rfl 6 0 rfl rfl rfl rfl rfl (Nat.le_of_ble_eq_true rfl) rfl (ws' := (wd_X6_mindsBy E a_t a_t_count a_t_outs x_t_signs w_t_pad x_t_places w_t_page x_t_begins x_t_court x_t_allowed w_t_weight x_t_sights w_t_sight x_t_opens w_t_open w_t_behind w_t_pack w_t_image w_t_isKept m_t_count x_t_outs)) rfl ⟨Nat.le_of_ble_eq_true rfl, Nat.le_of_ble_eq_true rfl⟩ dX6_mindsBy_34 (fun H locs hP hD hS => ?_)
        refine lv_aload_n hx hb dX6_mindsBy_37 rfl (lv_at hl 0 rfl) ?_
        refine gf_X6_44 X hP 0 rfl rfl dX6_mindsBy_38 ?_
        refine lv_iload hx hb dX6_mindsBy_41 (lv_at hl 4 rfl) ?_
        obtain ⟨hi43, hf⟩ := ck_some hf
        refine r_iald X hP 2 rfl hi43 dX6_mindsBy_43 ?_
        refine lv_icmp_eq (tgt := 51) hx hb dX6_mindsBy_44 (by decide) (fun c_44 => ?_) (fun c_44 => ?_)
        · have hf := if_t c_44 hf
          refine lv_iconst (v := (0 : Int32)) hx hb dX6_mindsBy_51 (by decide) ?_
          refine lv_iadd hx hb dX6_mindsBy_52 ?_
          refine lv_istore (lv' := [(4, .int (v4 + (0 : Int32))), (0, .ref a_t), (1, .int p1), (3, .int v3), (5, .int v5)]) hx hb dX6_mindsBy_53 hl (by decide) rfl (fun ls hl => ?_)
          refine lv_iinc (v := (v5 + (1 : Int32))) (lv' := [(5, .int (v5 + (1 : Int32))), (4, .int (v4 + (0 : Int32))), (0, .ref a_t), (1, .int p1), (3, .int v3)]) hx hb dX6_mindsBy_55 hl (k := 4) rfl rfl (by decide) rfl (fun ls hl => ?_)
          refine lv_goto (tgt := 20) hx hb dX6_mindsBy_58 (by decide) ?_
          exact ih20 v3 (v4 + (0 : Int32)) (v5 + (1 : Int32)) m_t_count hf H locs ls hP hD hS (lv_sub hl [2, 3, 4, 1, 0] rfl)
        · have hf := if_f c_44 hf
          refine lv_iconst (v := (1 : Int32)) hx hb dX6_mindsBy_47 (by decide) ?_
          refine lv_goto (tgt := 52) hx hb dX6_mindsBy_48 (by decide) ?_
          refine lv_iadd hx hb dX6_mindsBy_52 ?_
          refine lv_istore (lv' := [(4, .int (v4 + (1 : Int32))), (0, .ref a_t), (1, .int p1), (3, .int v3), (5, .int v5)]) hx hb dX6_mindsBy_53 hl (by decide) rfl (fun ls hl => ?_)
          refine lv_iinc (v := (v5 + (1 : Int32))) (lv' := [(5, .int (v5 + (1 : Int32))), (4, .int (v4 + (1 : Int32))), (0, .ref a_t), (1, .int p1), (3, .int v3)]) hx hb dX6_mindsBy_55 hl (k := 4) rfl rfl (by decide) rfl (fun ls hl => ?_)
          refine lv_goto (tgt := 20) hx hb dX6_mindsBy_58 (by decide) ?_
          exact ih20 v3 (v4 + (1 : Int32)) (v5 + (1 : Int32)) m_t_count hf H locs ls hP hD hS (lv_sub hl [2, 3, 4, 1, 0] rfl)
  have hS : va_S A s.heap s.heap [] := va_S.rf
  obtain ⟨H, hH9⟩ : ∃ z, z = s.heap := ⟨_, rfl⟩
  obtain ⟨locs, hL9⟩ : ∃ z : List Loc, z = [] := ⟨_, rfl⟩
  rw [← hL9]
  rw [← hL9] at hS
  have hP : va_P E.1 vwCl (wd_X6_mindsBy E a_t a_t_count a_t_outs x_t_signs w_t_pad x_t_places w_t_page x_t_begins x_t_court x_t_allowed w_t_weight x_t_sights w_t_sight x_t_opens w_t_open w_t_behind w_t_pack w_t_image w_t_isKept x_t_count x_t_outs) H := by rw [hH9]; exact hP
  have hS : va_S A s.heap H locs := by rw [hH9]; exact hS
  suffices hgoal : W p l e (rmm 1 22) s m ([.ref a_t, .int p1, .int p2] : List Value).toArray below meth c H locs 0 0 Q (F0 m 0 ls []) by rw [hH9] at hgoal; exact hgoal
  rw [f_X6_mindsBy] at hf
  refine lv_aload_n hx hb dX6_mindsBy_0 rfl (lv_at hl 0 rfl) ?_
  refine gf_X6_35 X hP 0 rfl rfl dX6_mindsBy_1 ?_
  refine lv_iload_n hx hb dX6_mindsBy_4 rfl (lv_at hl 1 rfl) ?_
  obtain ⟨hi5, hf⟩ := ck_some hf
  refine r_iald X hP 1 rfl hi5 dX6_mindsBy_5 ?_
  refine lv_istore_n (lv' := [(3, .int (x_t_count (ix p1))), (0, .ref a_t), (1, .int p1), (2, .int p2)]) hx hb dX6_mindsBy_6 rfl hl (by decide) rfl (fun ls hl => ?_)
  refine lv_aload_n hx hb dX6_mindsBy_7 rfl (lv_at hl 1 rfl) ?_
  refine gf_X6_35 X hP 0 rfl rfl dX6_mindsBy_8 ?_
  refine lv_iload_n hx hb dX6_mindsBy_11 rfl (lv_at hl 2 rfl) ?_
  refine lv_iload_n hx hb dX6_mindsBy_12 rfl (lv_at hl 3 rfl) ?_
  refine r_iast X hP hD hS 1 rfl hi5 (ws' := (wd_X6_mindsBy E a_t a_t_count a_t_outs x_t_signs w_t_pad x_t_places w_t_page x_t_begins x_t_court x_t_allowed w_t_weight x_t_sights w_t_sight x_t_opens w_t_open w_t_behind w_t_pack w_t_image w_t_isKept (upd x_t_count (ix p1) p2) x_t_outs)) rfl dX6_mindsBy_13 (fun H locs hP hD hS => ?_)
  refine lv_iconst (v := (0 : Int32)) hx hb dX6_mindsBy_14 (by decide) ?_
  refine lv_istore (lv' := [(4, .int (0 : Int32)), (3, .int (x_t_count (ix p1))), (0, .ref a_t), (1, .int p1), (2, .int p2)]) hx hb dX6_mindsBy_15 hl (by decide) rfl (fun ls hl => ?_)
  refine lv_iconst (v := (0 : Int32)) hx hb dX6_mindsBy_17 (by decide) ?_
  refine lv_istore (lv' := [(5, .int (0 : Int32)), (4, .int (0 : Int32)), (3, .int (x_t_count (ix p1))), (0, .ref a_t), (1, .int p1), (2, .int p2)]) hx hb dX6_mindsBy_18 hl (by decide) rfl (fun ls hl => ?_)
  exact L20 FU (x_t_count (ix p1)) (0 : Int32) (0 : Int32) (upd x_t_count (ix p1) p2) hf H locs ls hP hD hS (lv_sub hl [3, 4, 2, 1, 0] rfl)
