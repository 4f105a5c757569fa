abbrev wd_X6_minds (E : EN) (a_t : Nat) (a_t_page : Nat) (a_t_count : Nat) (a_t_open : Nat) (a_t_outs : Nat) (x_t_signs : Int32) (w_t_pad : Value) (x_t_places : Int32) (x_t_begins : Int32) (x_t_court : Int32) (x_t_allowed : Int32) (w_t_weight : Value) (x_t_sights : Int32) (w_t_sight : Value) (x_t_opens : Int32) (w_t_behind : Value) (w_t_pack : Value) (w_t_image : Value) (w_t_isKept : Value) (x_t_page : Nat → Int32) (x_t_count : Nat → Int32) (x_t_open : Nat → Int32) (x_t_outs : Nat → Int32) : va_W := [(a_t, e_O 6 [.int x_t_signs, w_t_pad, .int x_t_places, .ref a_t_page, .int x_t_begins, .int x_t_court, .int x_t_allowed, w_t_weight, .int x_t_sights, w_t_sight, .ref a_t_count, .int x_t_opens, .ref a_t_open, w_t_behind, .ref a_t_outs, w_t_pack, w_t_image, w_t_isKept]), (a_t_page, e_I E 40 x_t_page), (a_t_count, e_I E 40 x_t_count), (a_t_open, e_I E 5 x_t_open), (a_t_outs, e_I E 10 x_t_outs)]
def f_X6_minds (p1 : Int32) (p2 : Int32) (x_t_places : Int32) (x_t_begins : Int32) (x_t_court : Int32) (x_t_opens : Int32) (x_t_page : Nat → Int32) (x_t_count : Nat → Int32) (x_t_open : Nat → Int32) (x_t_outs : Nat → Int32) : Option (Int32 × Int32 × (Nat → Int32) × (Nat → Int32) × (Nat → Int32)) :=
  Option.bind (f_X6_isPlace p1 x_t_places) (fun r2 =>
  if r2 = 0 then
    some ((-1 : Int32), x_t_opens, x_t_count, x_t_open, x_t_outs)
  else
    Option.bind (f_X6_in p2 (1 : Int32) (10 : Int32)) (fun r12 =>
    if r12 = 0 then
      some ((-1 : Int32), x_t_opens, x_t_count, x_t_open, x_t_outs)
    else
      Option.bind (f_X6_isWhole x_t_places x_t_page) (fun r21 =>
      if r21 = 0 then
        some ((-3 : Int32), x_t_opens, x_t_count, x_t_open, x_t_outs)
      else
        Option.bind (f_X6_lay x_t_court x_t_places x_t_count x_t_page x_t_open) (fun r35 =>
        Option.bind (f_X6_keepOuts x_t_places x_t_begins x_t_outs r35.2.1) (fun r39 =>
        Option.bind (f_X6_mindsBy p1 p2 x_t_places x_t_begins r35.2.1 r39) (fun r45 =>
        some (r45.1, r35.1, r45.2, r35.2.2, r39)))))))
set_option maxHeartbeats 4000000 in
set_option maxRecDepth 100000 in
theorem c_X6_minds (l : Launch) (E : EN) (a_t a_t_page a_t_count a_t_open a_t_outs : Nat) (x_t_signs : Int32) (w_t_pad : Value) (x_t_places : Int32) (x_t_begins : Int32) (x_t_court : Int32) (x_t_allowed : Int32) (w_t_weight : Value) (x_t_sights : Int32) (w_t_sight : Value) (x_t_opens : Int32) (w_t_behind : Value) (w_t_pack : Value) (w_t_image : Value) (w_t_isKept : Value) (x_t_page : Nat → Int32) (x_t_count : Nat → Int32) (x_t_open : Nat → Int32) (x_t_outs : Nat → Int32) (p1 : Int32) (p2 : Int32) (res : Int32 × Int32 × (Nat → Int32) × (Nat → Int32) × (Nat → Int32)) (hf : f_X6_minds p1 p2 x_t_places x_t_begins x_t_court x_t_opens x_t_page x_t_count x_t_open x_t_outs = some res) : CtI l yX6_minds cX6_minds 3 .int 3 65 E [.ref a_t, .int p1, .int p2] (wd_X6_minds E a_t a_t_page a_t_count a_t_open a_t_outs x_t_signs w_t_pad x_t_places x_t_begins x_t_court x_t_allowed w_t_weight x_t_sights w_t_sight x_t_opens w_t_behind w_t_pack w_t_image w_t_isKept x_t_page x_t_count x_t_open x_t_outs) (wd_X6_minds E a_t a_t_page a_t_count a_t_open a_t_outs x_t_signs w_t_pad x_t_places x_t_begins x_t_court x_t_allowed w_t_weight x_t_sights w_t_sight res.2.1 w_t_behind w_t_pack w_t_image w_t_isKept x_t_page res.2.2.1 res.2.2.2.1 res.2.2.2.2) res.1 := by
  refine CtI.of RX6 (by decide) rfl (Nat.le_of_ble_eq_true rfl) ?_
  intro p e s m below meth c A Q ls X hA hP hD hl fin
  have hx := X.1
  have hb := X.2.1
  have hl : lv_has ls 3 [(0, .ref a_t), (1, .int p1), (2, .int p2)] := hl
  have fin' : ∀ (fr0 : Int32) (fr1 : Int32) (fr2 : (Nat → Int32)) (fr3 : (Nat → Int32)) (fr4 : (Nat → Int32)), some (fr0, fr1, fr2, fr3, fr4) = some res → ∀ (pc : Nat) (ls : Array Slot) (H : Heap) (locs : List Loc), decode cX6_minds pc = .ok (.ireturn, 1) → narrow .int (.int fr0) = .int fr0 → va_P E.1 vwCl (wd_X6_minds E a_t a_t_page a_t_count a_t_open a_t_outs x_t_signs w_t_pad x_t_places x_t_begins x_t_court x_t_allowed w_t_weight x_t_sights w_t_sight fr1 w_t_behind w_t_pack w_t_image w_t_isKept x_t_page fr2 fr3 fr4) H → va_D A (wd_X6_minds E a_t a_t_page a_t_count a_t_open a_t_outs x_t_signs w_t_pad x_t_places x_t_begins x_t_court x_t_allowed w_t_weight x_t_sights w_t_sight fr1 w_t_behind w_t_pack w_t_image w_t_isKept x_t_page fr2 fr3 fr4) → va_S A s.heap H locs → W p l e (rmm 3 65) s m ([.ref a_t, .int p1, .int p2] : List Value).toArray below meth c H locs 0 0 Q (F0 m pc ls [.int fr0]) := by
    intro fr0 fr1 fr2 fr3 fr4 he
    cases he
    exact fin
  have hS : va_S A s.heap s.heap [] := va_S.rf
  obtain ⟨H, hH9⟩ : ∃ z, z = s.heap := ⟨_, rfl⟩
  obtain ⟨locs, hL9⟩ : ∃ z : List Loc, z = [] := ⟨_, rfl⟩
  rw [← hL9]
  rw [← hL9] at hS
  have hP : va_P E.1 vwCl (wd_X6_minds E a_t a_t_page a_t_count a_t_open a_t_outs x_t_signs w_t_pad x_t_places x_t_begins x_t_court x_t_allowed w_t_weight x_t_sights w_t_sight x_t_opens w_t_behind w_t_pack w_t_image w_t_isKept x_t_page x_t_count x_t_open x_t_outs) H := by rw [hH9]; exact hP
  have hS : va_S A s.heap H locs := by rw [hH9]; exact hS
  suffices hgoal : W p l e (rmm 3 65) s m ([.ref a_t, .int p1, .int p2] : List Value).toArray below meth c H locs 0 0 Q (F0 m 0 ls []) by rw [hH9] at hgoal; exact hgoal
  rw [f_X6_minds] at hf
  refine lv_aload_n hx hb dX6_minds_0 rfl (lv_at hl 0 rfl) ?_
  refine lv_iload_n hx hb dX6_minds_1 rfl (lv_at hl 1 rfl) ?_
  obtain ⟨r2, hc2, hf⟩ := bd_some hf
  refine cV_I X hA hP hD hS hl.1 (c_X6_isPlace l E a_t x_t_signs w_t_pad x_t_places (.ref a_t_page) x_t_begins x_t_court x_t_allowed w_t_weight x_t_sights w_t_sight (.ref a_t_count) x_t_opens (.ref a_t_open) w_t_behind (.ref a_t_outs) w_t_pack w_t_image w_t_isKept p1 r2 hc2) 1 k_738 mw_X6_isPlace hd_X6_isPlace ⟨Nat.le_of_ble_eq_true rfl, Nat.le_of_ble_eq_true rfl⟩ [0] [1, 2, 3, 4] [4, 0, 1, 2, 3] rfl rfl (wr := [1, 2, 3, 4].filterMap (fun i => (wd_X6_minds E a_t a_t_page a_t_count a_t_open a_t_outs x_t_signs w_t_pad x_t_places x_t_begins x_t_court x_t_allowed w_t_weight x_t_sights w_t_sight x_t_opens w_t_behind w_t_pack w_t_image w_t_isKept x_t_page x_t_count x_t_open x_t_outs)[i]?)) rfl rfl rfl 6 0 rfl rfl rfl rfl rfl (Nat.le_of_ble_eq_true rfl) rfl (ws' := (wd_X6_minds E a_t a_t_page a_t_count a_t_open a_t_outs x_t_signs w_t_pad x_t_places x_t_begins x_t_court x_t_allowed w_t_weight x_t_sights w_t_sight x_t_opens w_t_behind w_t_pack w_t_image w_t_isKept x_t_page x_t_count x_t_open x_t_outs)) rfl ⟨Nat.le_of_ble_eq_true rfl, Nat.le_of_ble_eq_true rfl⟩ dX6_minds_2 (fun H locs hP hD hS => ?_)
  refine lv_if_eq (tgt := 18) hx hb dX6_minds_5 (by decide) (fun c_5 => ?_) (fun c_5 => ?_)
  · have hf := if_t c_5 hf
    refine lv_iconst (v := (-1 : Int32)) hx hb dX6_minds_18 (by decide) ?_
    exact fin' _ _ _ _ _ hf 19 ls H locs dX6_minds_19 rfl hP hD hS
  · have hf := if_f c_5 hf
    refine lv_iload_n hx hb dX6_minds_8 rfl (lv_at hl 2 rfl) ?_
    refine lv_iconst (v := (1 : Int32)) hx hb dX6_minds_9 (by decide) ?_
    refine lv_bipush (v := (10 : Int32)) hx hb dX6_minds_10 (by decide) ?_
    obtain ⟨r12, hc12, hf⟩ := bd_some hf
    refine cS_I X hA hP hD hS hl.1 (c_X6_in l E p2 (1 : Int32) (10 : Int32) r12 hc12) 3 k_692 mw_X6_in hd_X6_in ⟨Nat.le_of_ble_eq_true rfl, Nat.le_of_ble_eq_true rfl⟩ [] [0, 1, 2, 3, 4] [0, 1, 2, 3, 4] rfl rfl (wr := [0, 1, 2, 3, 4].filterMap (fun i => (wd_X6_minds E a_t a_t_page a_t_count a_t_open a_t_outs x_t_signs w_t_pad x_t_places x_t_begins x_t_court x_t_allowed w_t_weight x_t_sights w_t_sight x_t_opens w_t_behind w_t_pack w_t_image w_t_isKept x_t_page x_t_count x_t_open x_t_outs)[i]?)) rfl rfl rfl rfl rfl (Nat.le_of_ble_eq_true rfl) rfl (ws' := (wd_X6_minds E a_t a_t_page a_t_count a_t_open a_t_outs x_t_signs w_t_pad x_t_places x_t_begins x_t_court x_t_allowed w_t_weight x_t_sights w_t_sight x_t_opens w_t_behind w_t_pack w_t_image w_t_isKept x_t_page x_t_count x_t_open x_t_outs)) rfl ⟨Nat.le_of_ble_eq_true rfl, Nat.le_of_ble_eq_true rfl⟩ dX6_minds_12 (fun H locs hP hD hS => ?_)
    refine lv_if_ne (tgt := 20) hx hb dX6_minds_15 (by decide) (fun c_15 => ?_) (fun c_15 => ?_)
    · have hf := if_f c_15 hf
      refine lv_aload_n hx hb dX6_minds_20 rfl (lv_at hl 0 rfl) ?_
      obtain ⟨r21, hc21, hf⟩ := bd_some hf
      refine cV_I X hA hP hD hS hl.1 (c_X6_isWhole l E a_t a_t_page x_t_signs w_t_pad x_t_places x_t_begins x_t_court x_t_allowed w_t_weight x_t_sights w_t_sight (.ref a_t_count) x_t_opens (.ref a_t_open) w_t_behind (.ref a_t_outs) w_t_pack w_t_image w_t_isKept x_t_page r21 hc21) 0 k_749 mw_X6_isWhole hd_X6_isWhole ⟨Nat.le_of_ble_eq_true rfl, Nat.le_of_ble_eq_true rfl⟩ [0, 1] [2, 3, 4] [3, 4, 0, 1, 2] rfl rfl (wr := [2, 3, 4].filterMap (fun i => (wd_X6_minds E a_t a_t_page a_t_count a_t_open a_t_outs x_t_signs w_t_pad x_t_places x_t_begins x_t_court x_t_allowed w_t_weight x_t_sights w_t_sight x_t_opens w_t_behind w_t_pack w_t_image w_t_isKept x_t_page x_t_count x_t_open x_t_outs)[i]?)) rfl rfl rfl 6 0 rfl rfl rfl rfl rfl (Nat.le_of_ble_eq_true rfl) rfl (ws' := (wd_X6_minds E a_t a_t_page a_t_count a_t_open a_t_outs x_t_signs w_t_pad x_t_places x_t_begins x_t_court x_t_allowed w_t_weight x_t_sights w_t_sight x_t_opens w_t_behind w_t_pack w_t_image w_t_isKept x_t_page x_t_count x_t_open x_t_outs)) rfl ⟨Nat.le_of_ble_eq_true rfl, Nat.le_of_ble_eq_true rfl⟩ dX6_minds_21 (fun H locs hP hD hS => ?_)
      refine lv_if_ne (tgt := 30) hx hb dX6_minds_24 (by decide) (fun c_24 => ?_) (fun c_24 => ?_)
      · have hf := if_f c_24 hf
        refine lv_aload_n hx hb dX6_minds_30 rfl (lv_at hl 0 rfl) ?_
        refine lv_aload_n hx hb dX6_minds_31 rfl (lv_at hl 0 rfl) ?_
        refine gf_X6_23 X hP 0 rfl rfl dX6_minds_32 ?_
        obtain ⟨r35, hc35, hf⟩ := bd_some hf
        refine cV_V X hA hP hD hS hl.1 (c_X6_lay l E a_t a_t_count a_t_page a_t_open x_t_signs w_t_pad x_t_places x_t_begins x_t_court x_t_allowed w_t_weight x_t_sights w_t_sight x_t_opens w_t_behind (.ref a_t_outs) w_t_pack w_t_image w_t_isKept x_t_count x_t_page x_t_open x_t_court r35 hc35) 1 k_757 mw_X6_lay hd_X6_lay ⟨Nat.le_of_ble_eq_true rfl, Nat.le_of_ble_eq_true rfl⟩ [0, 2, 1, 3] [4] [1, 3, 2, 4, 0] rfl rfl (wr := [4].filterMap (fun i => (wd_X6_minds E a_t a_t_page a_t_count a_t_open a_t_outs x_t_signs w_t_pad x_t_places x_t_begins x_t_court x_t_allowed w_t_weight x_t_sights w_t_sight x_t_opens w_t_behind w_t_pack w_t_image w_t_isKept x_t_page x_t_count x_t_open x_t_outs)[i]?)) rfl rfl rfl 6 0 rfl rfl rfl rfl rfl (Nat.le_of_ble_eq_true rfl) rfl (ws' := (wd_X6_minds E a_t a_t_page a_t_count a_t_open a_t_outs x_t_signs w_t_pad x_t_places x_t_begins x_t_court x_t_allowed w_t_weight x_t_sights w_t_sight r35.1 w_t_behind w_t_pack w_t_image w_t_isKept x_t_page r35.2.1 r35.2.2 x_t_outs)) rfl ⟨Nat.le_of_ble_eq_true rfl, Nat.le_of_ble_eq_true rfl⟩ dX6_minds_35 (fun H locs hP hD hS => ?_)
        refine lv_aload_n hx hb dX6_minds_38 rfl (lv_at hl 0 rfl) ?_
        obtain ⟨r39, hc39, hf⟩ := bd_some hf
        refine cV_V X hA hP hD hS hl.1 (c_X6_keepOuts l E a_t a_t_outs a_t_count x_t_signs w_t_pad x_t_places (.ref a_t_page) x_t_begins x_t_court x_t_allowed w_t_weight x_t_sights w_t_sight r35.1 (.ref a_t_open) w_t_behind w_t_pack w_t_image w_t_isKept x_t_outs r35.2.1 r39 hc39) 0 k_809 mw_X6_keepOuts hd_X6_keepOuts ⟨Nat.le_of_ble_eq_true rfl, Nat.le_of_ble_eq_true rfl⟩ [0, 4, 2] [1, 3] [2, 0, 4, 1, 3] rfl rfl (wr := [1, 3].filterMap (fun i => (wd_X6_minds E a_t a_t_page a_t_count a_t_open a_t_outs x_t_signs w_t_pad x_t_places x_t_begins x_t_court x_t_allowed w_t_weight x_t_sights w_t_sight r35.1 w_t_behind w_t_pack w_t_image w_t_isKept x_t_page r35.2.1 r35.2.2 x_t_outs)[i]?)) rfl rfl rfl 6 0 rfl rfl rfl rfl rfl (Nat.le_of_ble_eq_true rfl) rfl (ws' := (wd_X6_minds E a_t a_t_page a_t_count a_t_open a_t_outs x_t_signs w_t_pad x_t_places x_t_begins x_t_court x_t_allowed w_t_weight x_t_sights w_t_sight r35.1 w_t_behind w_t_pack w_t_image w_t_isKept x_t_page r35.2.1 r35.2.2 r39)) rfl ⟨Nat.le_of_ble_eq_true rfl, Nat.le_of_ble_eq_true rfl⟩ dX6_minds_39 (fun H locs hP hD hS => ?_)
        refine lv_aload_n hx hb dX6_minds_42 rfl (lv_at hl 0 rfl) ?_
        refine lv_iload_n hx hb dX6_minds_43 rfl (lv_at hl 1 rfl) ?_
        refine lv_iload_n hx hb dX6_minds_44 rfl (lv_at hl 2 rfl) ?_
        obtain ⟨r45, hc45, hf⟩ := bd_some hf
        refine cV_I X hA hP hD hS hl.1 (c_X6_mindsBy l E a_t a_t_count a_t_outs x_t_signs w_t_pad x_t_places (.ref a_t_page) x_t_begins x_t_court x_t_allowed w_t_weight x_t_sights w_t_sight r35.1 (.ref a_t_open) w_t_behind w_t_pack w_t_image w_t_isKept r35.2.1 r39 p1 p2 r45 hc45) 2 k_813 mw_X6_mindsBy hd_X6_mindsBy ⟨Nat.le_of_ble_eq_true rfl, Nat.le_of_ble_eq_true rfl⟩ [0, 2, 4] [1, 3] [2, 0, 3, 1, 4] rfl rfl (wr := [1, 3].filterMap (fun i => (wd_X6_minds E a_t a_t_page a_t_count a_t_open a_t_outs x_t_signs w_t_pad x_t_places x_t_begins x_t_court x_t_allowed w_t_weight x_t_sights w_t_sight r35.1 w_t_behind w_t_pack w_t_image w_t_isKept x_t_page r35.2.1 r35.2.2 r39)[i]?)) rfl rfl rfl 6 0 rfl rfl rfl rfl rfl (Nat.le_of_ble_eq_true rfl) rfl (ws' := (wd_X6_minds E a_t a_t_page a_t_count a_t_open a_t_outs x_t_signs w_t_pad x_t_places x_t_begins x_t_court x_t_allowed w_t_weight x_t_sights w_t_sight r35.1 w_t_behind w_t_pack w_t_image w_t_isKept x_t_page r45.2 r35.2.2 r39)) rfl ⟨Nat.le_of_ble_eq_true rfl, Nat.le_of_ble_eq_true rfl⟩ dX6_minds_45 (fun H locs hP hD hS => ?_)
        exact fin' _ _ _ _ _ hf 48 ls H locs dX6_minds_48 rfl hP hD hS
      · have hf := if_t c_24 hf
        refine lv_bipush (v := (-3 : Int32)) hx hb dX6_minds_27 (by decide) ?_
        exact fin' _ _ _ _ _ hf 29 ls H locs dX6_minds_29 rfl hP hD hS
    · have hf := if_t c_15 hf
      refine lv_iconst (v := (-1 : Int32)) hx hb dX6_minds_18 (by decide) ?_
      exact fin' _ _ _ _ _ hf 19 ls H locs dX6_minds_19 rfl hP hD hS
abbrev wd_X6_one (E : EN) (a_t : Nat) (a_t_page : Nat) (a_t_count : Nat) (a_t_open : Nat) (a_t_outs : Nat) (x_t_signs : Int32) (w_t_pad : Value) (x_t_places : Int32) (x_t_begins : Int32) (x_t_court : Int32) (x_t_allowed : Int32) (w_t_weight : Value) (x_t_sights : Int32) (w_t_sight : Value) (x_t_opens : Int32) (w_t_behind : Value) (w_t_pack : Value) (w_t_image : Value) (w_t_isKept : Value) (x_t_page : Nat → Int32) (x_t_count : Nat → Int32) (x_t_open : Nat → Int32) (x_t_outs : Nat → Int32) : va_W := [(a_t, e_O 6 [.int x_t_signs, w_t_pad, .int x_t_places, .ref a_t_page, .int x_t_begins, .int x_t_court, .int x_t_allowed, w_t_weight, .int x_t_sights, w_t_sight, .ref a_t_count, .int x_t_opens, .ref a_t_open, w_t_behind, .ref a_t_outs, w_t_pack, w_t_image, w_t_isKept]), (a_t_page, e_I E 40 x_t_page), (a_t_count, e_I E 40 x_t_count), (a_t_open, e_I E 5 x_t_open), (a_t_outs, e_I E 10 x_t_outs)]
def f_X6_one_58 (x_t_places : Int32) (x_t_begins : Int32) (K_46 : Int32 → Int32 → Int32 → Int32 → Int32 → (Nat → Int32) → (Nat → Int32) → (Nat → Int32) → Option (Int32 × Int32 × (Nat → Int32) × (Nat → Int32) × (Nat → Int32))) : Nat → Int32 → Int32 → Int32 → Int32 → Int32 → Int32 → (Nat → Int32) → (Nat → Int32) → (Nat → Int32) → Option (Int32 × Int32 × (Nat → Int32) × (Nat → Int32) × (Nat → Int32))
  | 0, _, _, _, _, _, _, _, _, _ => none
  | n_ + 1, v2, v3, v4, v5, v6, m_t_opens, m_t_count, m_t_open, m_t_outs =>
    if (10 : Int32) < v6 then
      K_46 v2 v3 v4 (v5 + (1 : Int32)) m_t_opens m_t_count m_t_open m_t_outs
    else
      Option.bind (f_X6_mindsBy v5 v6 x_t_places x_t_begins m_t_count m_t_outs) (fun r70 =>
      if r70.1 ≤ v2 then
        f_X6_one_58 x_t_places x_t_begins K_46 n_ v2 v3 v4 v5 (v6 + (1 : Int32)) m_t_opens r70.2 m_t_open m_t_outs
      else
        f_X6_one_58 x_t_places x_t_begins K_46 n_ r70.1 v5 v6 v5 (v6 + (1 : Int32)) m_t_opens r70.2 m_t_open m_t_outs)
def f_X6_one_46 (p1 : Int32) (x_t_places : Int32) (x_t_begins : Int32)  : Nat → Int32 → Int32 → Int32 → Int32 → Int32 → (Nat → Int32) → (Nat → Int32) → (Nat → Int32) → Option (Int32 × Int32 × (Nat → Int32) × (Nat → Int32) × (Nat → Int32))
  | 0, _, _, _, _, _, _, _, _ => none
  | n_ + 1, v2, v3, v4, v5, m_t_opens, m_t_count, m_t_open, m_t_outs =>
    if x_t_places ≤ v5 then
      if p1 = 0 then
        some (v3, m_t_opens, m_t_count, m_t_open, m_t_outs)
      else
        if p1 = (1 : Int32) then
          some (v4, m_t_opens, m_t_count, m_t_open, m_t_outs)
        else
          some (v2, m_t_opens, m_t_count, m_t_open, m_t_outs)
    else
      f_X6_one_58 x_t_places x_t_begins (f_X6_one_46 p1 x_t_places x_t_begins n_) FU v2 v3 v4 v5 (1 : Int32) m_t_opens m_t_count m_t_open m_t_outs
def f_X6_one (p1 : Int32) (x_t_places : Int32) (x_t_begins : Int32) (x_t_court : Int32) (x_t_opens : Int32) (x_t_page : Nat → Int32) (x_t_count : Nat → Int32) (x_t_open : Nat → Int32) (x_t_outs : Nat → Int32) : Option (Int32 × Int32 × (Nat → Int32) × (Nat → Int32) × (Nat → Int32)) :=
  Option.bind (f_X6_in p1 (0 : Int32) (2 : Int32)) (fun r3 =>
  if r3 = 0 then
    some ((-2 : Int32), x_t_opens, x_t_count, x_t_open, x_t_outs)
  else
    Option.bind (f_X6_isWhole x_t_places x_t_page) (fun r13 =>
    if r13 = 0 then
      some ((-3 : Int32), x_t_opens, x_t_count, x_t_open, x_t_outs)
    else
      Option.bind (f_X6_lay x_t_court x_t_places x_t_count x_t_page x_t_open) (fun r27 =>
      Option.bind (f_X6_keepOuts x_t_places x_t_begins x_t_outs r27.2.1) (fun r31 =>
      f_X6_one_46 p1 x_t_places x_t_begins FU (0 : Int32) (-6 : Int32) (-6 : Int32) (0 : Int32) r27.1 r27.2.1 r27.2.2 r31))))
set_option maxHeartbeats 4000000 in
set_option maxRecDepth 100000 in
theorem c_X6_one (l : Launch) (E : EN) (a_t a_t_page a_t_count a_t_open a_t_outs : Nat) (x_t_signs : Int32) (w_t_pad : Value) (x_t_places : Int32) (x_t_begins : Int32) (x_t_court : Int32) (x_t_allowed : Int32) (w_t_weight : Value) (x_t_sights : Int32) (w_t_sight : Value) (x_t_opens : Int32) (w_t_behind : Value) (w_t_pack : Value) (w_t_image : Value) (w_t_isKept : Value) (x_t_page : Nat → Int32) (x_t_count : Nat → Int32) (x_t_open : Nat → Int32) (x_t_outs : Nat → Int32) (p1 : Int32) (res : Int32 × Int32 × (Nat → Int32) × (Nat → Int32) × (Nat → Int32)) (hf : f_X6_one p1 x_t_places x_t_begins x_t_court x_t_opens x_t_page x_t_count x_t_open x_t_outs = some res) : CtI l yX6_one cX6_one 8 .int 3 65 E [.ref a_t, .int p1] (wd_X6_one E a_t a_t_page a_t_count a_t_open a_t_outs x_t_signs w_t_pad x_t_places x_t_begins x_t_court x_t_allowed w_t_weight x_t_sights w_t_sight x_t_opens w_t_behind w_t_pack w_t_image w_t_isKept x_t_page x_t_count x_t_open x_t_outs) (wd_X6_one E a_t a_t_page a_t_count a_t_open a_t_outs x_t_signs w_t_pad x_t_places x_t_begins x_t_court x_t_allowed w_t_weight x_t_sights w_t_sight res.2.1 w_t_behind w_t_pack w_t_image w_t_isKept x_t_page res.2.2.1 res.2.2.2.1 res.2.2.2.2) res.1 := by
  refine CtI.of RX6 (by decide) rfl (Nat.le_of_ble_eq_true rfl) ?_
  intro p e s m below meth c A Q ls X hA hP hD hl fin
  have hx := X.1
  have hb := X.2.1
  have hl : lv_has ls 8 [(0, .ref a_t), (1, .int p1)] := hl
  have fin' : ∀ (fr0 : Int32) (fr1 : Int32) (fr2 : (Nat → Int32)) (fr3 : (Nat → Int32)) (fr4 : (Nat → Int32)), some (fr0, fr1, fr2, fr3, fr4) = some res → ∀ (pc : Nat) (ls : Array Slot) (H : Heap) (locs : List Loc), decode cX6_one pc = .ok (.ireturn, 1) → narrow .int (.int fr0) = .int fr0 → va_P E.1 vwCl (wd_X6_one E a_t a_t_page a_t_count a_t_open a_t_outs x_t_signs w_t_pad x_t_places x_t_begins x_t_court x_t_allowed w_t_weight x_t_sights w_t_sight fr1 w_t_behind w_t_pack w_t_image w_t_isKept x_t_page fr2 fr3 fr4) H → va_D A (wd_X6_one E a_t a_t_page a_t_count a_t_open a_t_outs x_t_signs w_t_pad x_t_places x_t_begins x_t_court x_t_allowed w_t_weight x_t_sights w_t_sight fr1 w_t_behind w_t_pack w_t_image w_t_isKept x_t_page fr2 fr3 fr4) → va_S A s.heap H locs → W p l e (rmm 3 65) s m ([.ref a_t, .int p1] : List Value).toArray below meth c H locs 0 0 Q (F0 m pc ls [.int fr0]) := by
    intro fr0 fr1 fr2 fr3 fr4 he
    cases he
    exact fin
  have L46 : ∀ (n46 : Nat) (v2 : Int32) (v3 : Int32) (v4 : Int32) (v5 : Int32) (m_t_opens : Int32) (m_t_count : Nat → Int32) (m_t_open : Nat → Int32) (m_t_outs : Nat → Int32), f_X6_one_46 p1 x_t_places x_t_begins n46 v2 v3 v4 v5 m_t_opens m_t_count m_t_open m_t_outs = some res → ∀ (H : Heap) (locs : List Loc) (ls : Array Slot), va_P E.1 vwCl (wd_X6_one E a_t a_t_page a_t_count a_t_open a_t_outs x_t_signs w_t_pad x_t_places x_t_begins x_t_court x_t_allowed w_t_weight x_t_sights w_t_sight m_t_opens w_t_behind w_t_pack w_t_image w_t_isKept x_t_page m_t_count m_t_open m_t_outs) H → va_D A (wd_X6_one E a_t a_t_page a_t_count a_t_open a_t_outs x_t_signs w_t_pad x_t_places x_t_begins x_t_court x_t_allowed w_t_weight x_t_sights w_t_sight m_t_opens w_t_behind w_t_pack w_t_image w_t_isKept x_t_page m_t_count m_t_open m_t_outs) → va_S A s.heap H locs → lv_has ls 8 [(0, .ref a_t), (1, .int p1), (2, .int v2), (3, .int v3), (4, .int v4), (5, .int v5)] → W p l e (rmm 3 65) s m ([.ref a_t, .int p1] : List Value).toArray below meth c H locs 0 0 Q (F0 m 46 ls []) := by
    intro n46
    induction n46 with
    | zero => intro v2 v3 v4 v5 m_t_opens m_t_count m_t_open m_t_outs hf; rw [f_X6_one_46] at hf; cases hf
    | succ n46 ih46 =>
      have L58 : ∀ (n58 : Nat) (v2 : Int32) (v3 : Int32) (v4 : Int32) (v5 : Int32) (v6 : Int32) (m_t_opens : Int32) (m_t_count : Nat → Int32) (m_t_open : Nat → Int32) (m_t_outs : Nat → Int32), f_X6_one_58 x_t_places x_t_begins (f_X6_one_46 p1 x_t_places x_t_begins n46) n58 v2 v3 v4 v5 v6 m_t_opens m_t_count m_t_open m_t_outs = some res → ∀ (H : Heap) (locs : List Loc) (ls : Array Slot), va_P E.1 vwCl (wd_X6_one E a_t a_t_page a_t_count a_t_open a_t_outs x_t_signs w_t_pad x_t_places x_t_begins x_t_court x_t_allowed w_t_weight x_t_sights w_t_sight m_t_opens w_t_behind w_t_pack w_t_image w_t_isKept x_t_page m_t_count m_t_open m_t_outs) H → va_D A (wd_X6_one E a_t a_t_page a_t_count a_t_open a_t_outs x_t_signs w_t_pad x_t_places x_t_begins x_t_court x_t_allowed w_t_weight x_t_sights w_t_sight m_t_opens w_t_behind w_t_pack w_t_image w_t_isKept x_t_page m_t_count m_t_open m_t_outs) → va_S A s.heap H locs → lv_has ls 8 [(0, .ref a_t), (1, .int p1), (2, .int v2), (3, .int v3), (4, .int v4), (5, .int v5), (6, .int v6)] → W p l e (rmm 3 65) s m ([.ref a_t, .int p1] : List Value).toArray below meth c H locs 0 0 Q (F0 m 58 ls []) := by
        intro n58
        induction n58 with
        | zero => intro v2 v3 v4 v5 v6 m_t_opens m_t_count m_t_open m_t_outs hf; rw [f_X6_one_58] at hf; cases hf
        | succ n58 ih58 =>
          intro v2 v3 v4 v5 v6 m_t_opens m_t_count m_t_open m_t_outs hf H locs ls hP hD hS hl
          rw [f_X6_one_58] at hf
          refine lv_iload hx hb dX6_one_58 (lv_at hl 6 rfl) ?_
          refine lv_bipush (v := (10 : Int32)) hx hb dX6_one_60 (by decide) ?_
          refine lv_icmp_gt (tgt := 97) hx hb dX6_one_62 (by decide) (fun c_62 => ?_) (fun c_62 => ?_)
          · have hf := if_t c_62 hf
            refine lv_iinc (v := (v5 + (1 : Int32))) (lv' := [(5, .int (v5 + (1 : Int32))), (0, .ref a_t), (1, .int p1), (2, .int v2), (3, .int v3), (4, .int v4), (6, .int v6)]) hx hb dX6_one_97 hl (k := 5) rfl rfl (by decide) rfl (fun ls hl => ?_)
            refine lv_goto (tgt := 46) hx hb dX6_one_100 (by decide) ?_
            exact ih46 v2 v3 v4 (v5 + (1 : Int32)) m_t_opens m_t_count m_t_open m_t_outs hf H locs ls hP hD hS (lv_sub hl [1, 2, 3, 4, 5, 0] rfl)
          · have hf := if_f c_62 hf
            refine lv_aload_n hx hb dX6_one_65 rfl (lv_at hl 0 rfl) ?_
            refine lv_iload hx hb dX6_one_66 (lv_at hl 5 rfl) ?_
            refine lv_iload hx hb dX6_one_68 (lv_at hl 6 rfl) ?_
            obtain ⟨r70, hc70, hf⟩ := bd_some hf
            refine cV_I X hA hP hD hS hl.1 (c_X6_mindsBy l E a_t a_t_count a_t_outs x_t_signs w_t_pad x_t_places (.ref a_t_page) x_t_begins x_t_court x_t_allowed w_t_weight x_t_sights w_t_sight m_t_opens (.ref a_t_open) w_t_behind w_t_pack w_t_image w_t_isKept m_t_count m_t_outs v5 v6 r70 hc70) 2 k_813 mw_X6_mindsBy hd_X6_mindsBy ⟨Nat.le_of_ble_eq_true rfl, Nat.le_of_ble_eq_true rfl⟩ [0, 2, 4] [1, 3] [2, 0, 3, 1, 4] rfl rfl (wr := [1, 3].filterMap (fun i => (wd_X6_one E a_t a_t_page a_t_count a_t_open a_t_outs x_t_signs w_t_pad x_t_places x_t_begins x_t_court x_t_allowed w_t_weight x_t_sights w_t_sight m_t_opens w_t_behind w_t_pack w_t_image w_t_isKept x_t_page m_t_count m_t_open m_t_outs)[i]?)) rfl rfl rfl 6 0 rfl rfl rfl rfl rfl (Nat.le_of_ble_eq_true rfl) rfl (ws' := (wd_X6_one E a_t a_t_page a_t_count a_t_open a_t_outs x_t_signs w_t_pad x_t_places x_t_begins x_t_court x_t_allowed w_t_weight x_t_sights w_t_sight m_t_opens w_t_behind w_t_pack w_t_image w_t_isKept x_t_page r70.2 m_t_open m_t_outs)) rfl ⟨Nat.le_of_ble_eq_true rfl, Nat.le_of_ble_eq_true rfl⟩ dX6_one_70 (fun H locs hP hD hS => ?_)
            refine lv_istore (lv' := [(7, .int r70.1), (0, .ref a_t), (1, .int p1), (2, .int v2), (3, .int v3), (4, .int v4), (5, .int v5), (6, .int v6)]) hx hb dX6_one_73 hl (by decide) rfl (fun ls hl => ?_)
            refine lv_iload hx hb dX6_one_75 (lv_at hl 0 rfl) ?_
            refine lv_iload_n hx hb dX6_one_77 rfl (lv_at hl 3 rfl) ?_
            refine lv_icmp_le (tgt := 91) hx hb dX6_one_78 (by decide) (fun c_78 => ?_) (fun c_78 => ?_)
            · have hf := if_t c_78 hf
              refine lv_iinc (v := (v6 + (1 : Int32))) (lv' := [(6, .int (v6 + (1 : Int32))), (7, .int r70.1), (0, .ref a_t), (1, .int p1), (2, .int v2), (3, .int v3), (4, .int v4), (5, .int v5)]) hx hb dX6_one_91 hl (k := 7) rfl rfl (by decide) rfl (fun ls hl => ?_)
              refine lv_goto (tgt := 58) hx hb dX6_one_94 (by decide) ?_
              exact ih58 v2 v3 v4 v5 (v6 + (1 : Int32)) m_t_opens r70.2 m_t_open m_t_outs hf H locs ls hP hD hS (lv_sub hl [2, 3, 4, 5, 6, 7, 0] rfl)
            · have hf := if_f c_78 hf
              refine lv_iload hx hb dX6_one_81 (lv_at hl 0 rfl) ?_
              refine lv_istore_n (lv' := [(2, .int r70.1), (7, .int r70.1), (0, .ref a_t), (1, .int p1), (3, .int v3), (4, .int v4), (5, .int v5), (6, .int v6)]) hx hb dX6_one_83 rfl hl (by decide) rfl (fun ls hl => ?_)
              refine lv_iload hx hb dX6_one_84 (lv_at hl 6 rfl) ?_
              refine lv_istore_n (lv' := [(3, .int v5), (2, .int r70.1), (7, .int r70.1), (0, .ref a_t), (1, .int p1), (4, .int v4), (5, .int v5), (6, .int v6)]) hx hb dX6_one_86 rfl hl (by decide) rfl (fun ls hl => ?_)
              refine lv_iload hx hb dX6_one_87 (lv_at hl 7 rfl) ?_
              refine lv_istore (lv' := [(4, .int v6), (3, .int v5), (2, .int r70.1), (7, .int r70.1), (0, .ref a_t), (1, .int p1), (5, .int v5), (6, .int v6)]) hx hb dX6_one_89 hl (by decide) rfl (fun ls hl => ?_)
              refine lv_iinc (v := (v6 + (1 : Int32))) (lv' := [(6, .int (v6 + (1 : Int32))), (4, .int v6), (3, .int v5), (2, .int r70.1), (7, .int r70.1), (0, .ref a_t), (1, .int p1), (5, .int v5)]) hx hb dX6_one_91 hl (k := 7) rfl rfl (by decide) rfl (fun ls hl => ?_)
              refine lv_goto (tgt := 58) hx hb dX6_one_94 (by decide) ?_
              exact ih58 r70.1 v5 v6 v5 (v6 + (1 : Int32)) m_t_opens r70.2 m_t_open m_t_outs hf H locs ls hP hD hS (lv_sub hl [5, 6, 3, 2, 1, 7, 0] rfl)
      intro v2 v3 v4 v5 m_t_opens m_t_count m_t_open m_t_outs hf H locs ls hP hD hS hl
      rw [f_X6_one_46] at hf
      refine lv_iload hx hb dX6_one_46 (lv_at hl 5 rfl) ?_
      refine lv_aload_n hx hb dX6_one_48 rfl (lv_at hl 0 rfl) ?_
      refine gf_X6_13 X hP 0 rfl rfl dX6_one_49 ?_
      refine lv_icmp_ge (tgt := 103) hx hb dX6_one_52 (by decide) (fun c_52 => ?_) (fun c_52 => ?_)
      · have hf := if_t c_52 hf
        refine lv_iload_n hx hb dX6_one_103 rfl (lv_at hl 1 rfl) ?_
        refine lv_if_ne (tgt := 111) hx hb dX6_one_104 (by decide) (fun c_104 => ?_) (fun c_104 => ?_)
        · have hf := if_f c_104 hf
          refine lv_iload_n hx hb dX6_one_111 rfl (lv_at hl 1 rfl) ?_
          refine lv_iconst (v := (1 : Int32)) hx hb dX6_one_112 (by decide) ?_
          refine lv_icmp_ne (tgt := 121) hx hb dX6_one_113 (by decide) (fun c_113 => ?_) (fun c_113 => ?_)
          · have hf := if_f c_113 hf
            refine lv_iload_n hx hb dX6_one_121 rfl (lv_at hl 2 rfl) ?_
            exact fin' _ _ _ _ _ hf 122 ls H locs dX6_one_122 rfl hP hD hS
          · have hf := if_t c_113 hf
            refine lv_iload hx hb dX6_one_116 (lv_at hl 4 rfl) ?_
            refine lv_goto (tgt := 122) hx hb dX6_one_118 (by decide) ?_
            exact fin' _ _ _ _ _ hf 122 ls H locs dX6_one_122 rfl hP hD hS
        · have hf := if_t c_104 hf
          refine lv_iload_n hx hb dX6_one_107 rfl (lv_at hl 3 rfl) ?_
          refine lv_goto (tgt := 122) hx hb dX6_one_108 (by decide) ?_
          exact fin' _ _ _ _ _ hf 122 ls H locs dX6_one_122 rfl hP hD hS
      · have hf := if_f c_52 hf
        refine lv_iconst (v := (1 : Int32)) hx hb dX6_one_55 (by decide) ?_
        refine lv_istore (lv' := [(6, .int (1 : Int32)), (0, .ref a_t), (1, .int p1), (2, .int v2), (3, .int v3), (4, .int v4), (5, .int v5)]) hx hb dX6_one_56 hl (by decide) rfl (fun ls hl => ?_)
        exact L58 FU v2 v3 v4 v5 (1 : Int32) m_t_opens m_t_count m_t_open m_t_outs hf H locs ls hP hD hS (lv_sub hl [1, 2, 3, 4, 5, 6, 0] rfl)
  have hS : va_S A s.heap s.heap [] := va_S.rf
  obtain ⟨H, hH9⟩ : ∃ z, z = s.heap := ⟨_, rfl⟩
  obtain ⟨locs, hL9⟩ : ∃ z : List Loc, z = [] := ⟨_, rfl⟩
  rw [← hL9]
  rw [← hL9] at hS
  have hP : va_P E.1 vwCl (wd_X6_one E a_t a_t_page a_t_count a_t_open a_t_outs x_t_signs w_t_pad x_t_places x_t_begins x_t_court x_t_allowed w_t_weight x_t_sights w_t_sight x_t_opens w_t_behind w_t_pack w_t_image w_t_isKept x_t_page x_t_count x_t_open x_t_outs) H := by rw [hH9]; exact hP
  have hS : va_S A s.heap H locs := by rw [hH9]; exact hS
  suffices hgoal : W p l e (rmm 3 65) s m ([.ref a_t, .int p1] : List Value).toArray below meth c H locs 0 0 Q (F0 m 0 ls []) by rw [hH9] at hgoal; exact hgoal
  rw [f_X6_one] at hf
  refine lv_iload_n hx hb dX6_one_0 rfl (lv_at hl 1 rfl) ?_
  refine lv_iconst (v := (0 : Int32)) hx hb dX6_one_1 (by decide) ?_
  refine lv_iconst (v := (2 : Int32)) hx hb dX6_one_2 (by decide) ?_
  obtain ⟨r3, hc3, hf⟩ := bd_some hf
  refine cS_I X hA hP hD hS hl.1 (c_X6_in l E p1 (0 : Int32) (2 : Int32) r3 hc3) 3 k_692 mw_X6_in hd_X6_in ⟨Nat.le_of_ble_eq_true rfl, Nat.le_of_ble_eq_true rfl⟩ [] [0, 1, 2, 3, 4] [0, 1, 2, 3, 4] rfl rfl (wr := [0, 1, 2, 3, 4].filterMap (fun i => (wd_X6_one E a_t a_t_page a_t_count a_t_open a_t_outs x_t_signs w_t_pad x_t_places x_t_begins x_t_court x_t_allowed w_t_weight x_t_sights w_t_sight x_t_opens w_t_behind w_t_pack w_t_image w_t_isKept x_t_page x_t_count x_t_open x_t_outs)[i]?)) rfl rfl rfl rfl rfl (Nat.le_of_ble_eq_true rfl) rfl (ws' := (wd_X6_one E a_t a_t_page a_t_count a_t_open a_t_outs x_t_signs w_t_pad x_t_places x_t_begins x_t_court x_t_allowed w_t_weight x_t_sights w_t_sight x_t_opens w_t_behind w_t_pack w_t_image w_t_isKept x_t_page x_t_count x_t_open x_t_outs)) rfl ⟨Nat.le_of_ble_eq_true rfl, Nat.le_of_ble_eq_true rfl⟩ dX6_one_3 (fun H locs hP hD hS => ?_)
  refine lv_if_ne (tgt := 12) hx hb dX6_one_6 (by decide) (fun c_6 => ?_) (fun c_6 => ?_)
  · have hf := if_f c_6 hf
    refine lv_aload_n hx hb dX6_one_12 rfl (lv_at hl 0 rfl) ?_
    obtain ⟨r13, hc13, hf⟩ := bd_some hf
    refine cV_I X hA hP hD hS hl.1 (c_X6_isWhole l E a_t a_t_page x_t_signs w_t_pad x_t_places x_t_begins x_t_court x_t_allowed w_t_weight x_t_sights w_t_sight (.ref a_t_count) x_t_opens (.ref a_t_open) w_t_behind (.ref a_t_outs) w_t_pack w_t_image w_t_isKept x_t_page r13 hc13) 0 k_749 mw_X6_isWhole hd_X6_isWhole ⟨Nat.le_of_ble_eq_true rfl, Nat.le_of_ble_eq_true rfl⟩ [0, 1] [2, 3, 4] [3, 4, 0, 1, 2] rfl rfl (wr := [2, 3, 4].filterMap (fun i => (wd_X6_one E a_t a_t_page a_t_count a_t_open a_t_outs x_t_signs w_t_pad x_t_places x_t_begins x_t_court x_t_allowed w_t_weight x_t_sights w_t_sight x_t_opens w_t_behind w_t_pack w_t_image w_t_isKept x_t_page x_t_count x_t_open x_t_outs)[i]?)) rfl rfl rfl 6 0 rfl rfl rfl rfl rfl (Nat.le_of_ble_eq_true rfl) rfl (ws' := (wd_X6_one E a_t a_t_page a_t_count a_t_open a_t_outs x_t_signs w_t_pad x_t_places x_t_begins x_t_court x_t_allowed w_t_weight x_t_sights w_t_sight x_t_opens w_t_behind w_t_pack w_t_image w_t_isKept x_t_page x_t_count x_t_open x_t_outs)) rfl ⟨Nat.le_of_ble_eq_true rfl, Nat.le_of_ble_eq_true rfl⟩ dX6_one_13 (fun H locs hP hD hS => ?_)
    refine lv_if_ne (tgt := 22) hx hb dX6_one_16 (by decide) (fun c_16 => ?_) (fun c_16 => ?_)
    · have hf := if_f c_16 hf
      refine lv_aload_n hx hb dX6_one_22 rfl (lv_at hl 0 rfl) ?_
      refine lv_aload_n hx hb dX6_one_23 rfl (lv_at hl 0 rfl) ?_
      refine gf_X6_23 X hP 0 rfl rfl dX6_one_24 ?_
      obtain ⟨r27, hc27, hf⟩ := bd_some hf
      refine cV_V X hA hP hD hS hl.1 (c_X6_lay l E a_t a_t_count a_t_page a_t_open x_t_signs w_t_pad x_t_places x_t_begins x_t_court x_t_allowed w_t_weight x_t_sights w_t_sight x_t_opens w_t_behind (.ref a_t_outs) w_t_pack w_t_image w_t_isKept x_t_count x_t_page x_t_open x_t_court r27 hc27) 1 k_757 mw_X6_lay hd_X6_lay ⟨Nat.le_of_ble_eq_true rfl, Nat.le_of_ble_eq_true rfl⟩ [0, 2, 1, 3] [4] [1, 3, 2, 4, 0] rfl rfl (wr := [4].filterMap (fun i => (wd_X6_one E a_t a_t_page a_t_count a_t_open a_t_outs x_t_signs w_t_pad x_t_places x_t_begins x_t_court x_t_allowed w_t_weight x_t_sights w_t_sight x_t_opens w_t_behind w_t_pack w_t_image w_t_isKept x_t_page x_t_count x_t_open x_t_outs)[i]?)) rfl rfl rfl 6 0 rfl rfl rfl rfl rfl (Nat.le_of_ble_eq_true rfl) rfl (ws' := (wd_X6_one E a_t a_t_page a_t_count a_t_open a_t_outs x_t_signs w_t_pad x_t_places x_t_begins x_t_court x_t_allowed w_t_weight x_t_sights w_t_sight r27.1 w_t_behind w_t_pack w_t_image w_t_isKept x_t_page r27.2.1 r27.2.2 x_t_outs)) rfl ⟨Nat.le_of_ble_eq_true rfl, Nat.le_of_ble_eq_true rfl⟩ dX6_one_27 (fun H locs hP hD hS => ?_)
      refine lv_aload_n hx hb dX6_one_30 rfl (lv_at hl 0 rfl) ?_
      obtain ⟨r31, hc31, hf⟩ := bd_some hf
      refine cV_V X hA hP hD hS hl.1 (c_X6_keepOuts l E a_t a_t_outs a_t_count x_t_signs w_t_pad x_t_places (.ref a_t_page) x_t_begins x_t_court x_t_allowed w_t_weight x_t_sights w_t_sight r27.1 (.ref a_t_open) w_t_behind w_t_pack w_t_image w_t_isKept x_t_outs r27.2.1 r31 hc31) 0 k_809 mw_X6_keepOuts hd_X6_keepOuts ⟨Nat.le_of_ble_eq_true rfl, Nat.le_of_ble_eq_true rfl⟩ [0, 4, 2] [1, 3] [2, 0, 4, 1, 3] rfl rfl (wr := [1, 3].filterMap (fun i => (wd_X6_one E a_t a_t_page a_t_count a_t_open a_t_outs x_t_signs w_t_pad x_t_places x_t_begins x_t_court x_t_allowed w_t_weight x_t_sights w_t_sight r27.1 w_t_behind w_t_pack w_t_image w_t_isKept x_t_page r27.2.1 r27.2.2 x_t_outs)[i]?)) rfl rfl rfl 6 0 rfl rfl rfl rfl rfl (Nat.le_of_ble_eq_true rfl) rfl (ws' := (wd_X6_one E a_t a_t_page a_t_count a_t_open a_t_outs x_t_signs w_t_pad x_t_places x_t_begins x_t_court x_t_allowed w_t_weight x_t_sights w_t_sight r27.1 w_t_behind w_t_pack w_t_image w_t_isKept x_t_page r27.2.1 r27.2.2 r31)) rfl ⟨Nat.le_of_ble_eq_true rfl, Nat.le_of_ble_eq_true rfl⟩ dX6_one_31 (fun H locs hP hD hS => ?_)
      refine lv_iconst (v := (0 : Int32)) hx hb dX6_one_34 (by decide) ?_
      refine lv_istore_n (lv' := [(2, .int (0 : Int32)), (0, .ref a_t), (1, .int p1)]) hx hb dX6_one_35 rfl hl (by decide) rfl (fun ls hl => ?_)
      refine lv_bipush (v := (-6 : Int32)) hx hb dX6_one_36 (by decide) ?_
      refine lv_istore_n (lv' := [(3, .int (-6 : Int32)), (2, .int (0 : Int32)), (0, .ref a_t), (1, .int p1)]) hx hb dX6_one_38 rfl hl (by decide) rfl (fun ls hl => ?_)
      refine lv_bipush (v := (-6 : Int32)) hx hb dX6_one_39 (by decide) ?_
      refine lv_istore (lv' := [(4, .int (-6 : Int32)), (3, .int (-6 : Int32)), (2, .int (0 : Int32)), (0, .ref a_t), (1, .int p1)]) hx hb dX6_one_41 hl (by decide) rfl (fun ls hl => ?_)
      refine lv_iconst (v := (0 : Int32)) hx hb dX6_one_43 (by decide) ?_
      refine lv_istore (lv' := [(5, .int (0 : Int32)), (4, .int (-6 : Int32)), (3, .int (-6 : Int32)), (2, .int (0 : Int32)), (0, .ref a_t), (1, .int p1)]) hx hb dX6_one_44 hl (by decide) rfl (fun ls hl => ?_)
      exact L46 FU (0 : Int32) (-6 : Int32) (-6 : Int32) (0 : Int32) r27.1 r27.2.1 r27.2.2 r31 hf H locs ls hP hD hS (lv_sub hl [4, 5, 3, 2, 1, 0] rfl)
    · have hf := if_t c_16 hf
      refine lv_bipush (v := (-3 : Int32)) hx hb dX6_one_19 (by decide) ?_
      exact fin' _ _ _ _ _ hf 21 ls H locs dX6_one_21 rfl hP hD hS
  · have hf := if_t c_6 hf
    refine lv_bipush (v := (-2 : Int32)) hx hb dX6_one_9 (by decide) ?_
    exact fin' _ _ _ _ _ hf 11 ls H locs dX6_one_11 rfl hP hD hS
abbrev wd_X6_mostAtOne (E : EN) (a_t : Nat) (a_t_count : Nat) (x_t_signs : Int32) (w_t_pad : Value) (x_t_places : Int32) (w_t_page : Value) (x_t_begins : Int32) (x_t_court : Int32) (x_t_allowed : Int32) (w_t_weight : Value) (x_t_sights : Int32) (w_t_sight : Value) (x_t_opens : Int32) (w_t_open : Value) (w_t_behind : Value) (w_t_outs : Value) (w_t_pack : Value) (w_t_image : Value) (w_t_isKept : Value) (x_t_count : Nat → Int32) : va_W := [(a_t, e_O 6 [.int x_t_signs, w_t_pad, .int x_t_places, w_t_page, .int x_t_begins, .int x_t_court, .int x_t_allowed, w_t_weight, .int x_t_sights, w_t_sight, .ref a_t_count, .int x_t_opens, w_t_open, w_t_behind, w_t_outs, w_t_pack, w_t_image, w_t_isKept]), (a_t_count, e_I E 40 x_t_count)]
def f_X6_mostAtOne_17 (x_t_places : Int32) (x_t_begins : Int32) (x_t_count : Nat → Int32) (K_4 : Int32 → Int32 → Option (Int32)) : Nat → Int32 → Int32 → Int32 → Int32 → Option (Int32)
  | 0, _, _, _, _ => none
  | n_ + 1, v1, v2, v3, v4 =>
    if x_t_begins ≤ v4 then
      if v3 ≤ v1 then
        K_4 v1 (v2 + (1 : Int32))
      else
        K_4 v3 (v2 + (1 : Int32))
    else
      Option.bind (f_X6_outOf v4 x_t_places x_t_count) (fun r30 =>
      Option.bind (f_X6_outOf v2 x_t_places x_t_count) (fun r35 =>
      if r30 = r35 then
        f_X6_mostAtOne_17 x_t_places x_t_begins x_t_count K_4 n_ v1 v2 (v3 + (1 : Int32)) (v4 + (1 : Int32))
      else
        f_X6_mostAtOne_17 x_t_places x_t_begins x_t_count K_4 n_ v1 v2 (v3 + (0 : Int32)) (v4 + (1 : Int32))))
def f_X6_mostAtOne_4 (x_t_places : Int32) (x_t_begins : Int32) (x_t_count : Nat → Int32)  : Nat → Int32 → Int32 → Option (Int32)
  | 0, _, _ => none
  | n_ + 1, v1, v2 =>
    if x_t_begins ≤ v2 then
      some v1
    else
      f_X6_mostAtOne_17 x_t_places x_t_begins x_t_count (f_X6_mostAtOne_4 x_t_places x_t_begins x_t_count n_) FU v1 v2 (0 : Int32) (0 : Int32)
def f_X6_mostAtOne (x_t_places : Int32) (x_t_begins : Int32) (x_t_count : Nat → Int32) : Option (Int32) :=
  f_X6_mostAtOne_4 x_t_places x_t_begins x_t_count FU (0 : Int32) (0 : Int32)
set_option maxHeartbeats 4000000 in
set_option maxRecDepth 100000 in
theorem c_X6_mostAtOne (l : Launch) (E : EN) (a_t a_t_count : Nat) (x_t_signs : Int32) (w_t_pad : Value) (x_t_places : Int32) (w_t_page : Value) (x_t_begins : Int32) (x_t_court : Int32) (x_t_allowed : Int32) (w_t_weight : Value) (x_t_sights : Int32) (w_t_sight : Value) (x_t_opens : Int32) (w_t_open : Value) (w_t_behind : Value) (w_t_outs : Value) (w_t_pack : Value) (w_t_image : Value) (w_t_isKept : Value) (x_t_count : Nat → Int32)  (res : Int32) (hf : f_X6_mostAtOne x_t_places x_t_begins x_t_count = some res) : CtI l yX6_mostAtOne cX6_mostAtOne 5 .int 1 22 E [.ref a_t] (wd_X6_mostAtOne E a_t a_t_count x_t_signs w_t_pad x_t_places w_t_page x_t_begins x_t_court x_t_allowed w_t_weight x_t_sights w_t_sight x_t_opens w_t_open w_t_behind w_t_outs w_t_pack w_t_image w_t_isKept x_t_count) (wd_X6_mostAtOne E a_t a_t_count x_t_signs w_t_pad x_t_places w_t_page x_t_begins x_t_court x_t_allowed w_t_weight x_t_sights w_t_sight x_t_opens w_t_open w_t_behind w_t_outs w_t_pack w_t_image w_t_isKept x_t_count) res := by
  refine CtI.of RX6 (by decide) rfl (Nat.le_of_ble_eq_true rfl) ?_
  intro p e s m below meth c A Q ls X hA hP hD hl fin
  have hx := X.1
  have hb := X.2.1
  have hl : lv_has ls 5 [(0, .ref a_t)] := hl
  have fin' : ∀ (fr0 : Int32), some fr0 = some res → ∀ (pc : Nat) (ls : Array Slot) (H : Heap) (locs : List Loc), decode cX6_mostAtOne pc = .ok (.ireturn, 1) → narrow .int (.int fr0) = .int fr0 → va_P E.1 vwCl (wd_X6_mostAtOne E a_t a_t_count x_t_signs w_t_pad x_t_places w_t_page x_t_begins x_t_court x_t_allowed w_t_weight x_t_sights w_t_sight x_t_opens w_t_open w_t_behind w_t_outs w_t_pack w_t_image w_t_isKept x_t_count) H → va_D A (wd_X6_mostAtOne E a_t a_t_count x_t_signs w_t_pad x_t_places w_t_page x_t_begins x_t_court x_t_allowed w_t_weight x_t_sights w_t_sight x_t_opens w_t_open w_t_behind w_t_outs w_t_pack w_t_image w_t_isKept x_t_count) → va_S A s.heap H locs → W p l e (rmm 1 22) s m ([.ref a_t] : List Value).toArray below meth c H locs 0 0 Q (F0 m pc ls [.int fr0]) := by
    intro fr0 he
    cases he
    exact fin
  have L4 : ∀ (n4 : Nat) (v1 : Int32) (v2 : Int32), f_X6_mostAtOne_4 x_t_places x_t_begins x_t_count n4 v1 v2 = some res → ∀ (H : Heap) (locs : List Loc) (ls : Array Slot), va_P E.1 vwCl (wd_X6_mostAtOne E a_t a_t_count x_t_signs w_t_pad x_t_places w_t_page x_t_begins x_t_court x_t_allowed w_t_weight x_t_sights w_t_sight x_t_opens w_t_open w_t_behind w_t_outs w_t_pack w_t_image w_t_isKept x_t_count) H → va_D A (wd_X6_mostAtOne E a_t a_t_count x_t_signs w_t_pad x_t_places w_t_page x_t_begins x_t_court x_t_allowed w_t_weight x_t_sights w_t_sight x_t_opens w_t_open w_t_behind w_t_outs w_t_pack w_t_image w_t_isKept x_t_count) → va_S A s.heap H locs → lv_has ls 5 [(0, .ref a_t), (1, .int v1), (2, .int v2)] → W p l e (rmm 1 22) s m ([.ref a_t] : List Value).toArray below meth c H locs 0 0 Q (F0 m 4 ls []) := by
    intro n4
    induction n4 with
    | zero => intro v1 v2 hf; rw [f_X6_mostAtOne_4] at hf; cases hf
    | succ n4 ih4 =>
      have L17 : ∀ (n17 : Nat) (v1 : Int32) (v2 : Int32) (v3 : Int32) (v4 : Int32), f_X6_mostAtOne_17 x_t_places x_t_begins x_t_count (f_X6_mostAtOne_4 x_t_places x_t_begins x_t_count n4) n17 v1 v2 v3 v4 = some res → ∀ (H : Heap) (locs : List Loc) (ls : Array Slot), va_P E.1 vwCl (wd_X6_mostAtOne E a_t a_t_count x_t_signs w_t_pad x_t_places w_t_page x_t_begins x_t_court x_t_allowed w_t_weight x_t_sights w_t_sight x_t_opens w_t_open w_t_behind w_t_outs w_t_pack w_t_image w_t_isKept x_t_count) H → va_D A (wd_X6_mostAtOne E a_t a_t_count x_t_signs w_t_pad x_t_places w_t_page x_t_begins x_t_court x_t_allowed w_t_weight x_t_sights w_t_sight x_t_opens w_t_open w_t_behind w_t_outs w_t_pack w_t_image w_t_isKept x_t_count) → va_S A s.heap H locs → lv_has ls 5 [(0, .ref a_t), (1, .int v1), (2, .int v2), (3, .int v3), (4, .int v4)] → W p l e (rmm 1 22) s m ([.ref a_t] : List Value).toArray below meth c H locs 0 0 Q (F0 m 17 ls []) := by
        intro n17
        induction n17 with
        | zero => intro v1 v2 v3 v4 hf; rw [f_X6_mostAtOne_17] at hf; cases hf
        | succ n17 ih17 =>
          intro v1 v2 v3 v4 hf H locs ls hP hD hS hl
          rw [f_X6_mostAtOne_17] at hf
          refine lv_iload hx hb dX6_mostAtOne_17 (lv_at hl 4 rfl) ?_
          refine lv_aload_n hx hb dX6_mostAtOne_19 rfl (lv_at hl 0 rfl) ?_
          refine gf_X6_20 X hP 0 rfl rfl dX6_mostAtOne_20 ?_
          refine lv_icmp_ge (tgt := 54) hx hb dX6_mostAtOne_23 (by decide) (fun c_23 => ?_) (fun c_23 => ?_)
          · have hf := if_t c_23 hf
            refine lv_iload_n hx hb dX6_mostAtOne_54 rfl (lv_at hl 3 rfl) ?_
            refine lv_iload_n hx hb dX6_mostAtOne_55 rfl (lv_at hl 1 rfl) ?_
            refine lv_icmp_le (tgt := 63) hx hb dX6_mostAtOne_56 (by decide) (fun c_56 => ?_) (fun c_56 => ?_)
            · have hf := if_t c_56 hf
              refine lv_iload_n hx hb dX6_mostAtOne_63 rfl (lv_at hl 1 rfl) ?_
              refine lv_istore_n (lv' := [(1, .int v1), (0, .ref a_t), (2, .int v2), (3, .int v3), (4, .int v4)]) hx hb dX6_mostAtOne_64 rfl hl (by decide) rfl (fun ls hl => ?_)
              refine lv_iinc (v := (v2 + (1 : Int32))) (lv' := [(2, .int (v2 + (1 : Int32))), (1, .int v1), (0, .ref a_t), (3, .int v3), (4, .int v4)]) hx hb dX6_mostAtOne_65 hl (k := 2) rfl rfl (by decide) rfl (fun ls hl => ?_)
              refine lv_goto (tgt := 4) hx hb dX6_mostAtOne_68 (by decide) ?_
              exact ih4 v1 (v2 + (1 : Int32)) hf H locs ls hP hD hS (lv_sub hl [2, 1, 0] rfl)
            · have hf := if_f c_56 hf
              refine lv_iload_n hx hb dX6_mostAtOne_59 rfl (lv_at hl 3 rfl) ?_
              refine lv_goto (tgt := 64) hx hb dX6_mostAtOne_60 (by decide) ?_
              refine lv_istore_n (lv' := [(1, .int v3), (0, .ref a_t), (2, .int v2), (3, .int v3), (4, .int v4)]) hx hb dX6_mostAtOne_64 rfl hl (by decide) rfl (fun ls hl => ?_)
              refine lv_iinc (v := (v2 + (1 : Int32))) (lv' := [(2, .int (v2 + (1 : Int32))), (1, .int v3), (0, .ref a_t), (3, .int v3), (4, .int v4)]) hx hb dX6_mostAtOne_65 hl (k := 2) rfl rfl (by decide) rfl (fun ls hl => ?_)
              refine lv_goto (tgt := 4) hx hb dX6_mostAtOne_68 (by decide) ?_
              exact ih4 v3 (v2 + (1 : Int32)) hf H locs ls hP hD hS (lv_sub hl [2, 1, 0] rfl)
          · have hf := if_f c_23 hf
            refine lv_iload_n hx hb dX6_mostAtOne_26 rfl (lv_at hl 3 rfl) ?_
            refine lv_aload_n hx hb dX6_mostAtOne_27 rfl (lv_at hl 0 rfl) ?_
            refine lv_iload hx hb dX6_mostAtOne_28 (lv_at hl 4 rfl) ?_
            obtain ⟨r30, hc30, hf⟩ := bd_some hf
            refine cV_I X hA hP hD hS hl.1 (c_X6_outOf l E a_t a_t_count x_t_signs w_t_pad x_t_places w_t_page x_t_begins x_t_court x_t_allowed w_t_weight x_t_sights w_t_sight x_t_opens w_t_open w_t_behind w_t_outs w_t_pack w_t_image w_t_isKept x_t_count v4 r30 hc30) 1 k_761 mw_X6_outOf hd_X6_outOf ⟨Nat.le_of_ble_eq_true rfl, Nat.le_of_ble_eq_true rfl⟩ [0, 1] [] [0, 1] rfl rfl (wr := []) rfl rfl rfl 6 0 rfl rfl rfl rfl rfl (Nat.le_of_ble_eq_true rfl) rfl (ws' := (wd_X6_mostAtOne E a_t a_t_count x_t_signs w_t_pad x_t_places w_t_page x_t_begins x_t_court x_t_allowed w_t_weight x_t_sights w_t_sight x_t_opens w_t_open w_t_behind w_t_outs w_t_pack w_t_image w_t_isKept x_t_count)) rfl ⟨Nat.le_of_ble_eq_true rfl, Nat.le_of_ble_eq_true rfl⟩ dX6_mostAtOne_30 (fun H locs hP hD hS => ?_)
            refine lv_aload_n hx hb dX6_mostAtOne_33 rfl (lv_at hl 0 rfl) ?_
            refine lv_iload_n hx hb dX6_mostAtOne_34 rfl (lv_at hl 2 rfl) ?_
            obtain ⟨r35, hc35, hf⟩ := bd_some hf
            refine cV_I X hA hP hD hS hl.1 (c_X6_outOf l E a_t a_t_count x_t_signs w_t_pad x_t_places w_t_page x_t_begins x_t_court x_t_allowed w_t_weight x_t_sights w_t_sight x_t_opens w_t_open w_t_behind w_t_outs w_t_pack w_t_image w_t_isKept x_t_count v2 r35 hc35) 1 k_761 mw_X6_outOf hd_X6_outOf ⟨Nat.le_of_ble_eq_true rfl, Nat.le_of_ble_eq_true rfl⟩ [0, 1] [] [0, 1] rfl rfl (wr := []) rfl rfl rfl 6 0 rfl rfl rfl rfl rfl (Nat.le_of_ble_eq_true rfl) rfl (ws' := (wd_X6_mostAtOne E a_t a_t_count x_t_signs w_t_pad x_t_places w_t_page x_t_begins x_t_court x_t_allowed w_t_weight x_t_sights w_t_sight x_t_opens w_t_open w_t_behind w_t_outs w_t_pack w_t_image w_t_isKept x_t_count)) rfl ⟨Nat.le_of_ble_eq_true rfl, Nat.le_of_ble_eq_true rfl⟩ dX6_mostAtOne_35 (fun H locs hP hD hS => ?_)
            refine lv_icmp_ne (tgt := 45) hx hb dX6_mostAtOne_38 (by decide) (fun c_38 => ?_) (fun c_38 => ?_)
            · have hf := if_f c_38 hf
              refine lv_iconst (v := (0 : Int32)) hx hb dX6_mostAtOne_45 (by decide) ?_
              refine lv_iadd hx hb dX6_mostAtOne_46 ?_
              refine lv_istore_n (lv' := [(3, .int (v3 + (0 : Int32))), (0, .ref a_t), (1, .int v1), (2, .int v2), (4, .int v4)]) hx hb dX6_mostAtOne_47 rfl hl (by decide) rfl (fun ls hl => ?_)
              refine lv_iinc (v := (v4 + (1 : Int32))) (lv' := [(4, .int (v4 + (1 : Int32))), (3, .int (v3 + (0 : Int32))), (0, .ref a_t), (1, .int v1), (2, .int v2)]) hx hb dX6_mostAtOne_48 hl (k := 4) rfl rfl (by decide) rfl (fun ls hl => ?_)
              refine lv_goto (tgt := 17) hx hb dX6_mostAtOne_51 (by decide) ?_
              exact ih17 v1 v2 (v3 + (0 : Int32)) (v4 + (1 : Int32)) hf H locs ls hP hD hS (lv_sub hl [2, 3, 4, 1, 0] rfl)
            · have hf := if_t c_38 hf
              refine lv_iconst (v := (1 : Int32)) hx hb dX6_mostAtOne_41 (by decide) ?_
              refine lv_goto (tgt := 46) hx hb dX6_mostAtOne_42 (by decide) ?_
              refine lv_iadd hx hb dX6_mostAtOne_46 ?_
              refine lv_istore_n (lv' := [(3, .int (v3 + (1 : Int32))), (0, .ref a_t), (1, .int v1), (2, .int v2), (4, .int v4)]) hx hb dX6_mostAtOne_47 rfl hl (by decide) rfl (fun ls hl => ?_)
              refine lv_iinc (v := (v4 + (1 : Int32))) (lv' := [(4, .int (v4 + (1 : Int32))), (3, .int (v3 + (1 : Int32))), (0, .ref a_t), (1, .int v1), (2, .int v2)]) hx hb dX6_mostAtOne_48 hl (k := 4) rfl rfl (by decide) rfl (fun ls hl => ?_)
              refine lv_goto (tgt := 17) hx hb dX6_mostAtOne_51 (by decide) ?_
              exact ih17 v1 v2 (v3 + (1 : Int32)) (v4 + (1 : Int32)) hf H locs ls hP hD hS (lv_sub hl [2, 3, 4, 1, 0] rfl)
      intro v1 v2 hf H locs ls hP hD hS hl
      rw [f_X6_mostAtOne_4] at hf
      refine lv_iload_n hx hb dX6_mostAtOne_4 rfl (lv_at hl 2 rfl) ?_
      refine lv_aload_n hx hb dX6_mostAtOne_5 rfl (lv_at hl 0 rfl) ?_
      refine gf_X6_20 X hP 0 rfl rfl dX6_mostAtOne_6 ?_
      refine lv_icmp_ge (tgt := 71) hx hb dX6_mostAtOne_9 (by decide) (fun c_9 => ?_) (fun c_9 => ?_)
      · have hf := if_t c_9 hf
        refine lv_iload_n hx hb dX6_mostAtOne_71 rfl (lv_at hl 1 rfl) ?_
        exact fin' _ hf 72 ls H locs dX6_mostAtOne_72 rfl hP hD hS
      · have hf := if_f c_9 hf
        refine lv_iconst (v := (0 : Int32)) hx hb dX6_mostAtOne_12 (by decide) ?_
        refine lv_istore_n (lv' := [(3, .int (0 : Int32)), (0, .ref a_t), (1, .int v1), (2, .int v2)]) hx hb dX6_mostAtOne_13 rfl hl (by decide) rfl (fun ls hl => ?_)
        refine lv_iconst (v := (0 : Int32)) hx hb dX6_mostAtOne_14 (by decide) ?_
        refine lv_istore (lv' := [(4, .int (0 : Int32)), (3, .int (0 : Int32)), (0, .ref a_t), (1, .int v1), (2, .int v2)]) hx hb dX6_mostAtOne_15 hl (by decide) rfl (fun ls hl => ?_)
        exact L17 FU v1 v2 (0 : Int32) (0 : Int32) hf H locs ls hP hD hS (lv_sub hl [2, 3, 4, 1, 0] rfl)
  have hS : va_S A s.heap s.heap [] := va_S.rf
  obtain ⟨H, hH9⟩ : ∃ z, z = s.heap := ⟨_, rfl⟩
  obtain ⟨locs, hL9⟩ : ∃ z : List Loc, z = [] := ⟨_, rfl⟩
  rw [← hL9]
  rw [← hL9] at hS
  have hP : va_P E.1 vwCl (wd_X6_mostAtOne E a_t a_t_count x_t_signs w_t_pad x_t_places w_t_page x_t_begins x_t_court x_t_allowed w_t_weight x_t_sights w_t_sight x_t_opens w_t_open w_t_behind w_t_outs w_t_pack w_t_image w_t_isKept x_t_count) H := by rw [hH9]; exact hP
  have hS : va_S A s.heap H locs := by rw [hH9]; exact hS
  suffices hgoal : W p l e (rmm 1 22) s m ([.ref a_t] : List Value).toArray below meth c H locs 0 0 Q (F0 m 0 ls []) by rw [hH9] at hgoal; exact hgoal
  rw [f_X6_mostAtOne] at hf
  refine lv_iconst (v := (0 : Int32)) hx hb dX6_mostAtOne_0 (by decide) ?_
  refine lv_istore_n (lv' := [(1, .int (0 : Int32)), (0, .ref a_t)]) hx hb dX6_mostAtOne_1 rfl hl (by decide) rfl (fun ls hl => ?_)
  refine lv_iconst (v := (0 : Int32)) hx hb dX6_mostAtOne_2 (by decide) ?_
  refine lv_istore_n (lv' := [(2, .int (0 : Int32)), (1, .int (0 : Int32)), (0, .ref a_t)]) hx hb dX6_mostAtOne_3 rfl hl (by decide) rfl (fun ls hl => ?_)
  exact L4 FU (0 : Int32) (0 : Int32) hf H locs ls hP hD hS (lv_sub hl [2, 1, 0] rfl)
abbrev wd_X6_best (E : EN) (a_t : Nat) (a_t_page : Nat) (a_t_count : Nat) (a_t_open : Nat) (x_t_signs : Int32) (w_t_pad : Value) (x_t_places : Int32) (x_t_begins : Int32) (x_t_court : Int32) (x_t_allowed : Int32) (w_t_weight : Value) (x_t_sights : Int32) (w_t_sight : Value) (x_t_opens : Int32) (w_t_behind : Value) (w_t_outs : Value) (w_t_pack : Value) (w_t_image : Value) (w_t_isKept : Value) (x_t_page : Nat → Int32) (x_t_count : Nat → Int32) (x_t_open : Nat → Int32) : va_W := [(a_t, e_O 6 [.int x_t_signs, w_t_pad, .int x_t_places, .ref a_t_page, .int x_t_begins, .int x_t_court, .int x_t_allowed, w_t_weight, .int x_t_sights, w_t_sight, .ref a_t_count, .int x_t_opens, .ref a_t_open, w_t_behind, w_t_outs, w_t_pack, w_t_image, w_t_isKept]), (a_t_page, e_I E 40 x_t_page), (a_t_count, e_I E 40 x_t_count), (a_t_open, e_I E 5 x_t_open)]
def f_X6_best_29 (p1 : Int32) (x_t_places : Int32) (x_t_begins : Int32) (x_t_page : Nat → Int32)  : Nat → Int32 → Int32 → Int32 → Int32 → (Nat → Int32) → (Nat → Int32) → Option (Int32 × Int32 × (Nat → Int32) × (Nat → Int32))
  | 0, _, _, _, _, _, _ => none
  | n_ + 1, v2, v3, v4, m_t_opens, m_t_count, m_t_open =>
    if (10 : Int32) < v4 then
      if p1 = 0 then
        some (v3, m_t_opens, m_t_count, m_t_open)
      else
        some (v2, m_t_opens, m_t_count, m_t_open)
    else
      Option.bind (f_X6_lay v4 x_t_places m_t_count x_t_page m_t_open) (fun r39 =>
      Option.bind (f_X6_mostAtOne x_t_places x_t_begins r39.2.1) (fun r43 =>
      if r43 ≤ v2 then
        f_X6_best_29 p1 x_t_places x_t_begins x_t_page n_ v2 v3 (v4 + (1 : Int32)) r39.1 r39.2.1 r39.2.2
      else
        f_X6_best_29 p1 x_t_places x_t_begins x_t_page n_ r43 v4 (v4 + (1 : Int32)) r39.1 r39.2.1 r39.2.2))
def f_X6_best (p1 : Int32) (x_t_places : Int32) (x_t_begins : Int32) (x_t_opens : Int32) (x_t_page : Nat → Int32) (x_t_count : Nat → Int32) (x_t_open : Nat → Int32) : Option (Int32 × Int32 × (Nat → Int32) × (Nat → Int32)) :=
  Option.bind (f_X6_in p1 (0 : Int32) (1 : Int32)) (fun r3 =>
  if r3 = 0 then
    some ((-2 : Int32), x_t_opens, x_t_count, x_t_open)
  else
    Option.bind (f_X6_isWhole x_t_places x_t_page) (fun r13 =>
    if r13 = 0 then
      some ((-3 : Int32), x_t_opens, x_t_count, x_t_open)
    else
      f_X6_best_29 p1 x_t_places x_t_begins x_t_page FU (0 : Int32) (0 : Int32) (1 : Int32) x_t_opens x_t_count x_t_open))
set_option maxHeartbeats 4000000 in
set_option maxRecDepth 100000 in
theorem c_X6_best (l : Launch) (E : EN) (a_t a_t_page a_t_count a_t_open : Nat) (x_t_signs : Int32) (w_t_pad : Value) (x_t_places : Int32) (x_t_begins : Int32) (x_t_court : Int32) (x_t_allowed : Int32) (w_t_weight : Value) (x_t_sights : Int32) (w_t_sight : Value) (x_t_opens : Int32) (w_t_behind : Value) (w_t_outs : Value) (w_t_pack : Value) (w_t_image : Value) (w_t_isKept : Value) (x_t_page : Nat → Int32) (x_t_count : Nat → Int32) (x_t_open : Nat → Int32) (p1 : Int32) (res : Int32 × Int32 × (Nat → Int32) × (Nat → Int32)) (hf : f_X6_best p1 x_t_places x_t_begins x_t_opens x_t_page x_t_count x_t_open = some res) : CtI l yX6_best cX6_best 6 .int 3 65 E [.ref a_t, .int p1] (wd_X6_best E a_t a_t_page a_t_count a_t_open x_t_signs w_t_pad x_t_places x_t_begins x_t_court x_t_allowed w_t_weight x_t_sights w_t_sight x_t_opens w_t_behind w_t_outs w_t_pack w_t_image w_t_isKept x_t_page x_t_count x_t_open) (wd_X6_best E a_t a_t_page a_t_count a_t_open x_t_signs w_t_pad x_t_places x_t_begins x_t_court x_t_allowed w_t_weight x_t_sights w_t_sight res.2.1 w_t_behind w_t_outs w_t_pack w_t_image w_t_isKept x_t_page res.2.2.1 res.2.2.2) res.1 := by
  refine CtI.of RX6 (by decide) rfl (Nat.le_of_ble_eq_true rfl) ?_
  intro p e s m below meth c A Q ls X hA hP hD hl fin
  have hx := X.1
  have hb := X.2.1
  have hl : lv_has ls 6 [(0, .ref a_t), (1, .int p1)] := hl
  have fin' : ∀ (fr0 : Int32) (fr1 : Int32) (fr2 : (Nat → Int32)) (fr3 : (Nat → Int32)), some (fr0, fr1, fr2, fr3) = some res → ∀ (pc : Nat) (ls : Array Slot) (H : Heap) (locs : List Loc), decode cX6_best pc = .ok (.ireturn, 1) → narrow .int (.int fr0) = .int fr0 → va_P E.1 vwCl (wd_X6_best E a_t a_t_page a_t_count a_t_open x_t_signs w_t_pad x_t_places x_t_begins x_t_court x_t_allowed w_t_weight x_t_sights w_t_sight fr1 w_t_behind w_t_outs w_t_pack w_t_image w_t_isKept x_t_page fr2 fr3) H → va_D A (wd_X6_best E a_t a_t_page a_t_count a_t_open x_t_signs w_t_pad x_t_places x_t_begins x_t_court x_t_allowed w_t_weight x_t_sights w_t_sight fr1 w_t_behind w_t_outs w_t_pack w_t_image w_t_isKept x_t_page fr2 fr3) → va_S A s.heap H locs → W p l e (rmm 3 65) s m ([.ref a_t, .int p1] : List Value).toArray below meth c H locs 0 0 Q (F0 m pc ls [.int fr0]) := by
    intro fr0 fr1 fr2 fr3 he
    cases he
    exact fin
  have L29 : ∀ (n29 : Nat) (v2 : Int32) (v3 : Int32) (v4 : Int32) (m_t_opens : Int32) (m_t_count : Nat → Int32) (m_t_open : Nat → Int32), f_X6_best_29 p1 x_t_places x_t_begins x_t_page n29 v2 v3 v4 m_t_opens m_t_count m_t_open = some res → ∀ (H : Heap) (locs : List Loc) (ls : Array Slot), va_P E.1 vwCl (wd_X6_best E a_t a_t_page a_t_count a_t_open x_t_signs w_t_pad x_t_places x_t_begins x_t_court x_t_allowed w_t_weight x_t_sights w_t_sight m_t_opens w_t_behind w_t_outs w_t_pack w_t_image w_t_isKept x_t_page m_t_count m_t_open) H → va_D A (wd_X6_best E a_t a_t_page a_t_count a_t_open x_t_signs w_t_pad x_t_places x_t_begins x_t_court x_t_allowed w_t_weight x_t_sights w_t_sight m_t_opens w_t_behind w_t_outs w_t_pack w_t_image w_t_isKept x_t_page m_t_count m_t_open) → va_S A s.heap H locs → lv_has ls 6 [(0, .ref a_t), (1, .int p1), (2, .int v2), (3, .int v3), (4, .int v4)] → W p l e (rmm 3 65) s m ([.ref a_t, .int p1] : List Value).toArray below meth c H locs 0 0 Q (F0 m 29 ls []) := by
    intro n29
    induction n29 with
    | zero => intro v2 v3 v4 m_t_opens m_t_count m_t_open hf; rw [f_X6_best_29] at hf; cases hf
    | succ n29 ih29 =>
      intro v2 v3 v4 m_t_opens m_t_count m_t_open hf H locs ls hP hD hS hl
      rw [f_X6_best_29] at hf
      refine lv_iload hx hb dX6_best_29 (lv_at hl 4 rfl) ?_
      refine lv_bipush (v := (10 : Int32)) hx hb dX6_best_31 (by decide) ?_
      refine lv_icmp_gt (tgt := 66) hx hb dX6_best_33 (by decide) (fun c_33 => ?_) (fun c_33 => ?_)
      · have hf := if_t c_33 hf
        refine lv_iload_n hx hb dX6_best_66 rfl (lv_at hl 1 rfl) ?_
        refine lv_if_ne (tgt := 74) hx hb dX6_best_67 (by decide) (fun c_67 => ?_) (fun c_67 => ?_)
        · have hf := if_f c_67 hf
          refine lv_iload_n hx hb dX6_best_74 rfl (lv_at hl 2 rfl) ?_
          exact fin' _ _ _ _ hf 75 ls H locs dX6_best_75 rfl hP hD hS
        · have hf := if_t c_67 hf
          refine lv_iload_n hx hb dX6_best_70 rfl (lv_at hl 3 rfl) ?_
          refine lv_goto (tgt := 75) hx hb dX6_best_71 (by decide) ?_
          exact fin' _ _ _ _ hf 75 ls H locs dX6_best_75 rfl hP hD hS
      · have hf := if_f c_33 hf
        refine lv_aload_n hx hb dX6_best_36 rfl (lv_at hl 0 rfl) ?_
        refine lv_iload hx hb dX6_best_37 (lv_at hl 4 rfl) ?_
        obtain ⟨r39, hc39, hf⟩ := bd_some hf
        refine cV_V X hA hP hD hS hl.1 (c_X6_lay l E a_t a_t_count a_t_page a_t_open x_t_signs w_t_pad x_t_places x_t_begins x_t_court x_t_allowed w_t_weight x_t_sights w_t_sight m_t_opens w_t_behind w_t_outs w_t_pack w_t_image w_t_isKept m_t_count x_t_page m_t_open v4 r39 hc39) 1 k_757 mw_X6_lay hd_X6_lay ⟨Nat.le_of_ble_eq_true rfl, Nat.le_of_ble_eq_true rfl⟩ [0, 2, 1, 3] [] [0, 2, 1, 3] rfl rfl (wr := []) rfl rfl rfl 6 0 rfl rfl rfl rfl rfl (Nat.le_of_ble_eq_true rfl) rfl (ws' := (wd_X6_best E a_t a_t_page a_t_count a_t_open x_t_signs w_t_pad x_t_places x_t_begins x_t_court x_t_allowed w_t_weight x_t_sights w_t_sight r39.1 w_t_behind w_t_outs w_t_pack w_t_image w_t_isKept x_t_page r39.2.1 r39.2.2)) rfl ⟨Nat.le_of_ble_eq_true rfl, Nat.le_of_ble_eq_true rfl⟩ dX6_best_39 (fun H locs hP hD hS => ?_)
        refine lv_aload_n hx hb dX6_best_42 rfl (lv_at hl 0 rfl) ?_
        obtain ⟨r43, hc43, hf⟩ := bd_some hf
        refine cV_I X hA hP hD hS hl.1 (c_X6_mostAtOne l E a_t a_t_count x_t_signs w_t_pad x_t_places (.ref a_t_page) x_t_begins x_t_court x_t_allowed w_t_weight x_t_sights w_t_sight r39.1 (.ref a_t_open) w_t_behind w_t_outs w_t_pack w_t_image w_t_isKept r39.2.1 r43 hc43) 0 k_825 mw_X6_mostAtOne hd_X6_mostAtOne ⟨Nat.le_of_ble_eq_true rfl, Nat.le_of_ble_eq_true rfl⟩ [0, 2] [1, 3] [2, 0, 3, 1] rfl rfl (wr := [1, 3].filterMap (fun i => (wd_X6_best E a_t a_t_page a_t_count a_t_open x_t_signs w_t_pad x_t_places x_t_begins x_t_court x_t_allowed w_t_weight x_t_sights w_t_sight r39.1 w_t_behind w_t_outs w_t_pack w_t_image w_t_isKept x_t_page r39.2.1 r39.2.2)[i]?)) rfl rfl rfl 6 0 rfl rfl rfl rfl rfl (Nat.le_of_ble_eq_true rfl) rfl (ws' := (wd_X6_best E a_t a_t_page a_t_count a_t_open x_t_signs w_t_pad x_t_places x_t_begins x_t_court x_t_allowed w_t_weight x_t_sights w_t_sight r39.1 w_t_behind w_t_outs w_t_pack w_t_image w_t_isKept x_t_page r39.2.1 r39.2.2)) rfl ⟨Nat.le_of_ble_eq_true rfl, Nat.le_of_ble_eq_true rfl⟩ dX6_best_43 (fun H locs hP hD hS => ?_)
        refine lv_istore (lv' := [(5, .int r43), (0, .ref a_t), (1, .int p1), (2, .int v2), (3, .int v3), (4, .int v4)]) hx hb dX6_best_46 hl (by decide) rfl (fun ls hl => ?_)
        refine lv_iload hx hb dX6_best_48 (lv_at hl 0 rfl) ?_
        refine lv_iload_n hx hb dX6_best_50 rfl (lv_at hl 3 rfl) ?_
        refine lv_icmp_le (tgt := 60) hx hb dX6_best_51 (by decide) (fun c_51 => ?_) (fun c_51 => ?_)
        · have hf := if_t c_51 hf
          refine lv_iinc (v := (v4 + (1 : Int32))) (lv' := [(4, .int (v4 + (1 : Int32))), (5, .int r43), (0, .ref a_t), (1, .int p1), (2, .int v2), (3, .int v3)]) hx hb dX6_best_60 hl (k := 5) rfl rfl (by decide) rfl (fun ls hl => ?_)
          refine lv_goto (tgt := 29) hx hb dX6_best_63 (by decide) ?_
          exact ih29 v2 v3 (v4 + (1 : Int32)) r39.1 r39.2.1 r39.2.2 hf H locs ls hP hD hS (lv_sub hl [2, 3, 4, 5, 0] rfl)
        · have hf := if_f c_51 hf
          refine lv_iload hx hb dX6_best_54 (lv_at hl 0 rfl) ?_
          refine lv_istore_n (lv' := [(2, .int r43), (5, .int r43), (0, .ref a_t), (1, .int p1), (3, .int v3), (4, .int v4)]) hx hb dX6_best_56 rfl hl (by decide) rfl (fun ls hl => ?_)
          refine lv_iload hx hb dX6_best_57 (lv_at hl 5 rfl) ?_
          refine lv_istore_n (lv' := [(3, .int v4), (2, .int r43), (5, .int r43), (0, .ref a_t), (1, .int p1), (4, .int v4)]) hx hb dX6_best_59 rfl hl (by decide) rfl (fun ls hl => ?_)
          refine lv_iinc (v := (v4 + (1 : Int32))) (lv' := [(4, .int (v4 + (1 : Int32))), (3, .int v4), (2, .int r43), (5, .int r43), (0, .ref a_t), (1, .int p1)]) hx hb dX6_best_60 hl (k := 5) rfl rfl (by decide) rfl (fun ls hl => ?_)
          refine lv_goto (tgt := 29) hx hb dX6_best_63 (by decide) ?_
          exact ih29 r43 v4 (v4 + (1 : Int32)) r39.1 r39.2.1 r39.2.2 hf H locs ls hP hD hS (lv_sub hl [4, 5, 2, 1, 0] rfl)
  have hS : va_S A s.heap s.heap [] := va_S.rf
  obtain ⟨H, hH9⟩ : ∃ z, z = s.heap := ⟨_, rfl⟩
  obtain ⟨locs, hL9⟩ : ∃ z : List Loc, z = [] := ⟨_, rfl⟩
  rw [← hL9]
  rw [← hL9] at hS
  have hP : va_P E.1 vwCl (wd_X6_best E a_t a_t_page a_t_count a_t_open x_t_signs w_t_pad x_t_places x_t_begins x_t_court x_t_allowed w_t_weight x_t_sights w_t_sight x_t_opens w_t_behind w_t_outs w_t_pack w_t_image w_t_isKept x_t_page x_t_count x_t_open) H := by rw [hH9]; exact hP
  have hS : va_S A s.heap H locs := by rw [hH9]; exact hS
  suffices hgoal : W p l e (rmm 3 65) s m ([.ref a_t, .int p1] : List Value).toArray below meth c H locs 0 0 Q (F0 m 0 ls []) by rw [hH9] at hgoal; exact hgoal
  rw [f_X6_best] at hf
  refine lv_iload_n hx hb dX6_best_0 rfl (lv_at hl 1 rfl) ?_
  refine lv_iconst (v := (0 : Int32)) hx hb dX6_best_1 (by decide) ?_
  refine lv_iconst (v := (1 : Int32)) hx hb dX6_best_2 (by decide) ?_
  obtain ⟨r3, hc3, hf⟩ := bd_some hf
  refine cS_I X hA hP hD hS hl.1 (c_X6_in l E p1 (0 : Int32) (1 : Int32) r3 hc3) 3 k_692 mw_X6_in hd_X6_in ⟨Nat.le_of_ble_eq_true rfl, Nat.le_of_ble_eq_true rfl⟩ [] [0, 1, 2, 3] [0, 1, 2, 3] rfl rfl (wr := [0, 1, 2, 3].filterMap (fun i => (wd_X6_best E a_t a_t_page a_t_count a_t_open x_t_signs w_t_pad x_t_places x_t_begins x_t_court x_t_allowed w_t_weight x_t_sights w_t_sight x_t_opens w_t_behind w_t_outs w_t_pack w_t_image w_t_isKept x_t_page x_t_count x_t_open)[i]?)) rfl rfl rfl rfl rfl (Nat.le_of_ble_eq_true rfl) rfl (ws' := (wd_X6_best E a_t a_t_page a_t_count a_t_open x_t_signs w_t_pad x_t_places x_t_begins x_t_court x_t_allowed w_t_weight x_t_sights w_t_sight x_t_opens w_t_behind w_t_outs w_t_pack w_t_image w_t_isKept x_t_page x_t_count x_t_open)) rfl ⟨Nat.le_of_ble_eq_true rfl, Nat.le_of_ble_eq_true rfl⟩ dX6_best_3 (fun H locs hP hD hS => ?_)
  refine lv_if_ne (tgt := 12) hx hb dX6_best_6 (by decide) (fun c_6 => ?_) (fun c_6 => ?_)
  · have hf := if_f c_6 hf
    refine lv_aload_n hx hb dX6_best_12 rfl (lv_at hl 0 rfl) ?_
    obtain ⟨r13, hc13, hf⟩ := bd_some hf
    refine cV_I X hA hP hD hS hl.1 (c_X6_isWhole l E a_t a_t_page x_t_signs w_t_pad x_t_places x_t_begins x_t_court x_t_allowed w_t_weight x_t_sights w_t_sight (.ref a_t_count) x_t_opens (.ref a_t_open) w_t_behind w_t_outs w_t_pack w_t_image w_t_isKept x_t_page r13 hc13) 0 k_749 mw_X6_isWhole hd_X6_isWhole ⟨Nat.le_of_ble_eq_true rfl, Nat.le_of_ble_eq_true rfl⟩ [0, 1] [2, 3] [2, 3, 0, 1] rfl rfl (wr := [2, 3].filterMap (fun i => (wd_X6_best E a_t a_t_page a_t_count a_t_open x_t_signs w_t_pad x_t_places x_t_begins x_t_court x_t_allowed w_t_weight x_t_sights w_t_sight x_t_opens w_t_behind w_t_outs w_t_pack w_t_image w_t_isKept x_t_page x_t_count x_t_open)[i]?)) rfl rfl rfl 6 0 rfl rfl rfl rfl rfl (Nat.le_of_ble_eq_true rfl) rfl (ws' := (wd_X6_best E a_t a_t_page a_t_count a_t_open x_t_signs w_t_pad x_t_places x_t_begins x_t_court x_t_allowed w_t_weight x_t_sights w_t_sight x_t_opens w_t_behind w_t_outs w_t_pack w_t_image w_t_isKept x_t_page x_t_count x_t_open)) rfl ⟨Nat.le_of_ble_eq_true rfl, Nat.le_of_ble_eq_true rfl⟩ dX6_best_13 (fun H locs hP hD hS => ?_)
    refine lv_if_ne (tgt := 22) hx hb dX6_best_16 (by decide) (fun c_16 => ?_) (fun c_16 => ?_)
    · have hf := if_f c_16 hf
      refine lv_iconst (v := (0 : Int32)) hx hb dX6_best_22 (by decide) ?_
      refine lv_istore_n (lv' := [(2, .int (0 : Int32)), (0, .ref a_t), (1, .int p1)]) hx hb dX6_best_23 rfl hl (by decide) rfl (fun ls hl => ?_)
      refine lv_iconst (v := (0 : Int32)) hx hb dX6_best_24 (by decide) ?_
      refine lv_istore_n (lv' := [(3, .int (0 : Int32)), (2, .int (0 : Int32)), (0, .ref a_t), (1, .int p1)]) hx hb dX6_best_25 rfl hl (by decide) rfl (fun ls hl => ?_)
      refine lv_iconst (v := (1 : Int32)) hx hb dX6_best_26 (by decide) ?_
      refine lv_istore (lv' := [(4, .int (1 : Int32)), (3, .int (0 : Int32)), (2, .int (0 : Int32)), (0, .ref a_t), (1, .int p1)]) hx hb dX6_best_27 hl (by decide) rfl (fun ls hl => ?_)
      exact L29 FU (0 : Int32) (0 : Int32) (1 : Int32) x_t_opens x_t_count x_t_open hf H locs ls hP hD hS (lv_sub hl [3, 4, 2, 1, 0] rfl)
    · have hf := if_t c_16 hf
      refine lv_bipush (v := (-3 : Int32)) hx hb dX6_best_19 (by decide) ?_
      exact fin' _ _ _ _ hf 21 ls H locs dX6_best_21 rfl hP hD hS
  · have hf := if_t c_6 hf
    refine lv_bipush (v := (-2 : Int32)) hx hb dX6_best_9 (by decide) ?_
    exact fin' _ _ _ _ hf 11 ls H locs dX6_best_11 rfl hP hD hS
abbrev wd_X6_codes (E : EN) (a_t : Nat) (x_t_signs : Int32) (w_t_pad : Value) (x_t_places : Int32) (w_t_page : Value) (x_t_begins : Int32) (x_t_court : Int32) (x_t_allowed : Int32) (w_t_weight : Value) (x_t_sights : Int32) (w_t_sight : Value) (w_t_count : Value) (x_t_opens : Int32) (w_t_open : Value) (w_t_behind : Value) (w_t_outs : Value) (w_t_pack : Value) (w_t_image : Value) (w_t_isKept : Value) : va_W := [(a_t, e_O 6 [.int x_t_signs, w_t_pad, .int x_t_places, w_t_page, .int x_t_begins, .int x_t_court, .int x_t_allowed, w_t_weight, .int x_t_sights, w_t_sight, w_t_count, .int x_t_opens, w_t_open, w_t_behind, w_t_outs, w_t_pack, w_t_image, w_t_isKept])]
def f_X6_codes_4 (x_t_opens : Int32)  : Nat → Int32 → Int32 → Option (Int32)
  | 0, _, _ => none
  | n_ + 1, v1, v2 =>
    if x_t_opens ≤ v2 then
      some v1
    else
      f_X6_codes_4 x_t_opens n_ (v1 * (10 : Int32)) (v2 + (1 : Int32))
def f_X6_codes (x_t_opens : Int32) : Option (Int32) :=
  f_X6_codes_4 x_t_opens FU (1 : Int32) (0 : Int32)
set_option maxHeartbeats 4000000 in
set_option maxRecDepth 100000 in
theorem c_X6_codes (l : Launch) (E : EN) (a_t : Nat) (x_t_signs : Int32) (w_t_pad : Value) (x_t_places : Int32) (w_t_page : Value) (x_t_begins : Int32) (x_t_court : Int32) (x_t_allowed : Int32) (w_t_weight : Value) (x_t_sights : Int32) (w_t_sight : Value) (w_t_count : Value) (x_t_opens : Int32) (w_t_open : Value) (w_t_behind : Value) (w_t_outs : Value) (w_t_pack : Value) (w_t_image : Value) (w_t_isKept : Value)  (res : Int32) (hf : f_X6_codes x_t_opens = some res) : CtI l yX6_codes cX6_codes 3 .int 0 0 E [.ref a_t] (wd_X6_codes E a_t x_t_signs w_t_pad x_t_places w_t_page x_t_begins x_t_court x_t_allowed w_t_weight x_t_sights w_t_sight w_t_count x_t_opens w_t_open w_t_behind w_t_outs w_t_pack w_t_image w_t_isKept) (wd_X6_codes E a_t x_t_signs w_t_pad x_t_places w_t_page x_t_begins x_t_court x_t_allowed w_t_weight x_t_sights w_t_sight w_t_count x_t_opens w_t_open w_t_behind w_t_outs w_t_pack w_t_image w_t_isKept) res := by
  refine CtI.of RX6 (by decide) rfl (Nat.le_of_ble_eq_true rfl) ?_
  intro p e s m below meth c A Q ls X hA hP hD hl fin
  have hx := X.1
  have hb := X.2.1
  have hl : lv_has ls 3 [(0, .ref a_t)] := hl
  have fin' : ∀ (fr0 : Int32), some fr0 = some res → ∀ (pc : Nat) (ls : Array Slot) (H : Heap) (locs : List Loc), decode cX6_codes pc = .ok (.ireturn, 1) → narrow .int (.int fr0) = .int fr0 → va_P E.1 vwCl (wd_X6_codes E a_t x_t_signs w_t_pad x_t_places w_t_page x_t_begins x_t_court x_t_allowed w_t_weight x_t_sights w_t_sight w_t_count x_t_opens w_t_open w_t_behind w_t_outs w_t_pack w_t_image w_t_isKept) H → va_D A (wd_X6_codes E a_t x_t_signs w_t_pad x_t_places w_t_page x_t_begins x_t_court x_t_allowed w_t_weight x_t_sights w_t_sight w_t_count x_t_opens w_t_open w_t_behind w_t_outs w_t_pack w_t_image w_t_isKept) → va_S A s.heap H locs → W p l e (rmm 0 0) s m ([.ref a_t] : List Value).toArray below meth c H locs 0 0 Q (F0 m pc ls [.int fr0]) := by
    intro fr0 he
    cases he
    exact fin
  have L4 : ∀ (n4 : Nat) (v1 : Int32) (v2 : Int32), f_X6_codes_4 x_t_opens n4 v1 v2 = some res → ∀ (H : Heap) (locs : List Loc) (ls : Array Slot), va_P E.1 vwCl (wd_X6_codes E a_t x_t_signs w_t_pad x_t_places w_t_page x_t_begins x_t_court x_t_allowed w_t_weight x_t_sights w_t_sight w_t_count x_t_opens w_t_open w_t_behind w_t_outs w_t_pack w_t_image w_t_isKept) H → va_D A (wd_X6_codes E a_t x_t_signs w_t_pad x_t_places w_t_page x_t_begins x_t_court x_t_allowed w_t_weight x_t_sights w_t_sight w_t_count x_t_opens w_t_open w_t_behind w_t_outs w_t_pack w_t_image w_t_isKept) → va_S A s.heap H locs → lv_has ls 3 [(0, .ref a_t), (1, .int v1), (2, .int v2)] → W p l e (rmm 0 0) s m ([.ref a_t] : List Value).toArray below meth c H locs 0 0 Q (F0 m 4 ls []) := by
    intro n4
    induction n4 with
    | zero => intro v1 v2 hf; rw [f_X6_codes_4] at hf; cases hf
    | succ n4 ih4 =>
      intro v1 v2 hf H locs ls hP hD hS hl
      rw [f_X6_codes_4] at hf
      refine lv_iload_n hx hb dX6_codes_4 rfl (lv_at hl 2 rfl) ?_
      refine lv_aload_n hx hb dX6_codes_5 rfl (lv_at hl 0 rfl) ?_
      refine gf_X6_89 X hP 0 rfl rfl dX6_codes_6 ?_
      refine lv_icmp_ge (tgt := 23) hx hb dX6_codes_9 (by decide) (fun c_9 => ?_) (fun c_9 => ?_)
      · have hf := if_t c_9 hf
        refine lv_iload_n hx hb dX6_codes_23 rfl (lv_at hl 1 rfl) ?_
        exact fin' _ hf 24 ls H locs dX6_codes_24 rfl hP hD hS
      · have hf := if_f c_9 hf
        refine lv_iload_n hx hb dX6_codes_12 rfl (lv_at hl 1 rfl) ?_
        refine lv_bipush (v := (10 : Int32)) hx hb dX6_codes_13 (by decide) ?_
        refine lv_imul hx hb dX6_codes_15 ?_
        refine lv_istore_n (lv' := [(1, .int (v1 * (10 : Int32))), (0, .ref a_t), (2, .int v2)]) hx hb dX6_codes_16 rfl hl (by decide) rfl (fun ls hl => ?_)
        refine lv_iinc (v := (v2 + (1 : Int32))) (lv' := [(2, .int (v2 + (1 : Int32))), (1, .int (v1 * (10 : Int32))), (0, .ref a_t)]) hx hb dX6_codes_17 hl (k := 2) rfl rfl (by decide) rfl (fun ls hl => ?_)
        refine lv_goto (tgt := 4) hx hb dX6_codes_20 (by decide) ?_
        exact ih4 (v1 * (10 : Int32)) (v2 + (1 : Int32)) hf H locs ls hP hD hS (lv_sub hl [2, 1, 0] rfl)
  have hS : va_S A s.heap s.heap [] := va_S.rf
  obtain ⟨H, hH9⟩ : ∃ z, z = s.heap := ⟨_, rfl⟩
  obtain ⟨locs, hL9⟩ : ∃ z : List Loc, z = [] := ⟨_, rfl⟩
  rw [← hL9]
  rw [← hL9] at hS
  have hP : va_P E.1 vwCl (wd_X6_codes E a_t x_t_signs w_t_pad x_t_places w_t_page x_t_begins x_t_court x_t_allowed w_t_weight x_t_sights w_t_sight w_t_count x_t_opens w_t_open w_t_behind w_t_outs w_t_pack w_t_image w_t_isKept) H := by rw [hH9]; exact hP
  have hS : va_S A s.heap H locs := by rw [hH9]; exact hS
  suffices hgoal : W p l e (rmm 0 0) s m ([.ref a_t] : List Value).toArray below meth c H locs 0 0 Q (F0 m 0 ls []) by rw [hH9] at hgoal; exact hgoal
  rw [f_X6_codes] at hf
  refine lv_iconst (v := (1 : Int32)) hx hb dX6_codes_0 (by decide) ?_
  refine lv_istore_n (lv' := [(1, .int (1 : Int32)), (0, .ref a_t)]) hx hb dX6_codes_1 rfl hl (by decide) rfl (fun ls hl => ?_)
  refine lv_iconst (v := (0 : Int32)) hx hb dX6_codes_2 (by decide) ?_
  refine lv_istore_n (lv' := [(2, .int (0 : Int32)), (1, .int (1 : Int32)), (0, .ref a_t)]) hx hb dX6_codes_3 rfl hl (by decide) rfl (fun ls hl => ?_)
  exact L4 FU (1 : Int32) (0 : Int32) hf H locs ls hP hD hS (lv_sub hl [2, 1, 0] rfl)
abbrev wd_X6_writeIn (E : EN) (a_t : Nat) (a_t_count : Nat) (a_t_open : Nat) (a_t_weight : Nat) (x_t_signs : Int32) (w_t_pad : Value) (x_t_places : Int32) (w_t_page : Value) (x_t_begins : Int32) (x_t_court : Int32) (x_t_allowed : Int32) (x_t_sights : Int32) (w_t_sight : Value) (x_t_opens : Int32) (w_t_behind : Value) (w_t_outs : Value) (w_t_pack : Value) (w_t_image : Value) (w_t_isKept : Value) (x_t_count : Nat → Int32) (x_t_open : Nat → Int32) (x_t_weight : Nat → Int32) : va_W := [(a_t, e_O 6 [.int x_t_signs, w_t_pad, .int x_t_places, w_t_page, .int x_t_begins, .int x_t_court, .int x_t_allowed, .ref a_t_weight, .int x_t_sights, w_t_sight, .ref a_t_count, .int x_t_opens, .ref a_t_open, w_t_behind, w_t_outs, w_t_pack, w_t_image, w_t_isKept]), (a_t_count, e_I E 40 x_t_count), (a_t_open, e_I E 5 x_t_open), (a_t_weight, e_I E 11 x_t_weight)]
def f_X6_writeIn_12 (x_t_open : Nat → Int32) (x_t_weight : Nat → Int32)  : Nat → Int32 → Int32 → Int32 → (Nat → Int32) → Option (Int32 × (Nat → Int32))
  | 0, _, _, _, _ => none
  | n_ + 1, v2, v3, v4, m_t_count =>
    if v4 < 0 then
      some (v3, m_t_count)
    else
      ck (inB v4 5) (
      ck (inB (x_t_open (ix v4)) 40) (
      ck (inB ((v2 - v2 / (10 : Int32) * (10 : Int32)) + (1 : Int32)) 11) (
      f_X6_writeIn_12 x_t_open x_t_weight n_ (v2 / (10 : Int32)) (v3 * (x_t_weight (ix ((v2 - v2 / (10 : Int32) * (10 : Int32)) + (1 : Int32))))) (v4 + (-1 : Int32)) (upd m_t_count (ix (x_t_open (ix v4))) ((v2 - v2 / (10 : Int32) * (10 : Int32)) + (1 : Int32))))))
def f_X6_writeIn (p1 : Int32) (x_t_opens : Int32) (x_t_count : Nat → Int32) (x_t_open : Nat → Int32) (x_t_weight : Nat → Int32) : Option (Int32 × (Nat → Int32)) :=
  f_X6_writeIn_12 x_t_open x_t_weight FU p1 (1 : Int32) (x_t_opens - (1 : Int32)) x_t_count
set_option maxHeartbeats 4000000 in
set_option maxRecDepth 100000 in
theorem c_X6_writeIn (l : Launch) (E : EN) (a_t a_t_count a_t_open a_t_weight : Nat) (x_t_signs : Int32) (w_t_pad : Value) (x_t_places : Int32) (w_t_page : Value) (x_t_begins : Int32) (x_t_court : Int32) (x_t_allowed : Int32) (x_t_sights : Int32) (w_t_sight : Value) (x_t_opens : Int32) (w_t_behind : Value) (w_t_outs : Value) (w_t_pack : Value) (w_t_image : Value) (w_t_isKept : Value) (x_t_count : Nat → Int32) (x_t_open : Nat → Int32) (x_t_weight : Nat → Int32) (p1 : Int32) (res : Int32 × (Nat → Int32)) (hf : f_X6_writeIn p1 x_t_opens x_t_count x_t_open x_t_weight = some res) : CtI l yX6_writeIn cX6_writeIn 6 .int 0 0 E [.ref a_t, .int p1] (wd_X6_writeIn E a_t a_t_count a_t_open a_t_weight x_t_signs w_t_pad x_t_places w_t_page x_t_begins x_t_court x_t_allowed x_t_sights w_t_sight x_t_opens w_t_behind w_t_outs w_t_pack w_t_image w_t_isKept x_t_count x_t_open x_t_weight) (wd_X6_writeIn E a_t a_t_count a_t_open a_t_weight x_t_signs w_t_pad x_t_places w_t_page x_t_begins x_t_court x_t_allowed x_t_sights w_t_sight x_t_opens w_t_behind w_t_outs w_t_pack w_t_image w_t_isKept res.2 x_t_open x_t_weight) res.1 := by
  refine CtI.of RX6 (by decide) rfl (Nat.le_of_ble_eq_true rfl) ?_
  intro p e s m below meth c A Q ls X hA hP hD hl fin
  have hx := X.1
  have hb := X.2.1
  have hl : lv_has ls 6 [(0, .ref a_t), (1, .int p1)] := hl
  have fin' : ∀ (fr0 : Int32) (fr1 : (Nat → Int32)), some (fr0, fr1) = some res → ∀ (pc : Nat) (ls : Array Slot) (H : Heap) (locs : List Loc), decode cX6_writeIn pc = .ok (.ireturn, 1) → narrow .int (.int fr0) = .int fr0 → va_P E.1 vwCl (wd_X6_writeIn E a_t a_t_count a_t_open a_t_weight x_t_signs w_t_pad x_t_places w_t_page x_t_begins x_t_court x_t_allowed x_t_sights w_t_sight x_t_opens w_t_behind w_t_outs w_t_pack w_t_image w_t_isKept fr1 x_t_open x_t_weight) H → va_D A (wd_X6_writeIn E a_t a_t_count a_t_open a_t_weight x_t_signs w_t_pad x_t_places w_t_page x_t_begins x_t_court x_t_allowed x_t_sights w_t_sight x_t_opens w_t_behind w_t_outs w_t_pack w_t_image w_t_isKept fr1 x_t_open x_t_weight) → va_S A s.heap H locs → W p l e (rmm 0 0) s m ([.ref a_t, .int p1] : List Value).toArray below meth c H locs 0 0 Q (F0 m pc ls [.int fr0]) := by
    intro fr0 fr1 he
    cases he
    exact fin
  have L12 : ∀ (n12 : Nat) (v2 : Int32) (v3 : Int32) (v4 : Int32) (m_t_count : Nat → Int32), f_X6_writeIn_12 x_t_open x_t_weight n12 v2 v3 v4 m_t_count = some res → ∀ (H : Heap) (locs : List Loc) (ls : Array Slot), va_P E.1 vwCl (wd_X6_writeIn E a_t a_t_count a_t_open a_t_weight x_t_signs w_t_pad x_t_places w_t_page x_t_begins x_t_court x_t_allowed x_t_sights w_t_sight x_t_opens w_t_behind w_t_outs w_t_pack w_t_image w_t_isKept m_t_count x_t_open x_t_weight) H → va_D A (wd_X6_writeIn E a_t a_t_count a_t_open a_t_weight x_t_signs w_t_pad x_t_places w_t_page x_t_begins x_t_court x_t_allowed x_t_sights w_t_sight x_t_opens w_t_behind w_t_outs w_t_pack w_t_image w_t_isKept m_t_count x_t_open x_t_weight) → va_S A s.heap H locs → lv_has ls 6 [(0, .ref a_t), (2, .int v2), (3, .int v3), (4, .int v4)] → W p l e (rmm 0 0) s m ([.ref a_t, .int p1] : List Value).toArray below meth c H locs 0 0 Q (F0 m 12 ls []) := by
    intro n12
    induction n12 with
    | zero => intro v2 v3 v4 m_t_count hf; rw [f_X6_writeIn_12] at hf; cases hf
    | succ n12 ih12 =>
      intro v2 v3 v4 m_t_count hf H locs ls hP hD hS hl
      rw [f_X6_writeIn_12] at hf
      refine lv_iload hx hb dX6_writeIn_12 (lv_at hl 3 rfl) ?_
      refine lv_if_lt (tgt := 60) hx hb dX6_writeIn_14 (by decide) (fun c_14 => ?_) (fun c_14 => ?_)
      · have hf := if_t c_14 hf
        refine lv_iload_n hx hb dX6_writeIn_60 rfl (lv_at hl 2 rfl) ?_
        exact fin' _ _ hf 61 ls H locs dX6_writeIn_61 rfl hP hD hS
      · have hf := if_f c_14 hf
        refine lv_iload_n hx hb dX6_writeIn_17 rfl (lv_at hl 1 rfl) ?_
        refine lv_bipush (v := (10 : Int32)) hx hb dX6_writeIn_18 (by decide) ?_
        refine lv_irem hx hb dX6_writeIn_20 (by decide) ?_
        refine lv_iconst (v := (1 : Int32)) hx hb dX6_writeIn_21 (by decide) ?_
        refine lv_iadd hx hb dX6_writeIn_22 ?_
        refine lv_istore (lv' := [(5, .int ((v2 - v2 / (10 : Int32) * (10 : Int32)) + (1 : Int32))), (0, .ref a_t), (2, .int v2), (3, .int v3), (4, .int v4)]) hx hb dX6_writeIn_23 hl (by decide) rfl (fun ls hl => ?_)
        refine lv_aload_n hx hb dX6_writeIn_25 rfl (lv_at hl 1 rfl) ?_
        refine gf_X6_35 X hP 0 rfl rfl dX6_writeIn_26 ?_
        refine lv_aload_n hx hb dX6_writeIn_29 rfl (lv_at hl 1 rfl) ?_
        refine gf_X6_38 X hP 0 rfl rfl dX6_writeIn_30 ?_
        refine lv_iload hx hb dX6_writeIn_33 (lv_at hl 4 rfl) ?_
        obtain ⟨hi35, hf⟩ := ck_some hf
        refine r_iald X hP 2 rfl hi35 dX6_writeIn_35 ?_
        refine lv_iload hx hb dX6_writeIn_36 (lv_at hl 0 rfl) ?_
        obtain ⟨hi38, hf⟩ := ck_some hf
        refine r_iast X hP hD hS 1 rfl hi38 (ws' := (wd_X6_writeIn E a_t a_t_count a_t_open a_t_weight x_t_signs w_t_pad x_t_places w_t_page x_t_begins x_t_court x_t_allowed x_t_sights w_t_sight x_t_opens w_t_behind w_t_outs w_t_pack w_t_image w_t_isKept (upd m_t_count (ix (x_t_open (ix v4))) ((v2 - v2 / (10 : Int32) * (10 : Int32)) + (1 : Int32))) x_t_open x_t_weight)) rfl dX6_writeIn_38 (fun H locs hP hD hS => ?_)
        refine lv_iload_n hx hb dX6_writeIn_39 rfl (lv_at hl 3 rfl) ?_
        refine lv_aload_n hx hb dX6_writeIn_40 rfl (lv_at hl 1 rfl) ?_
        refine gf_X6_29 X hP 0 rfl rfl dX6_writeIn_41 ?_
        refine lv_iload hx hb dX6_writeIn_44 (lv_at hl 0 rfl) ?_
        obtain ⟨hi46, hf⟩ := ck_some hf
        refine r_iald X hP 3 rfl hi46 dX6_writeIn_46 ?_
        refine lv_imul hx hb dX6_writeIn_47 ?_
        refine lv_istore_n (lv' := [(3, .int (v3 * (x_t_weight (ix ((v2 - v2 / (10 : Int32) * (10 : Int32)) + (1 : Int32)))))), (5, .int ((v2 - v2 / (10 : Int32) * (10 : Int32)) + (1 : Int32))), (0, .ref a_t), (2, .int v2), (4, .int v4)]) hx hb dX6_writeIn_48 rfl hl (by decide) rfl (fun ls hl => ?_)
        refine lv_iload_n hx hb dX6_writeIn_49 rfl (lv_at hl 3 rfl) ?_
        refine lv_bipush (v := (10 : Int32)) hx hb dX6_writeIn_50 (by decide) ?_
        refine lv_idiv hx hb dX6_writeIn_52 (by decide) ?_
        refine lv_istore_n (lv' := [(2, .int (v2 / (10 : Int32))), (3, .int (v3 * (x_t_weight (ix ((v2 - v2 / (10 : Int32) * (10 : Int32)) + (1 : Int32)))))), (5, .int ((v2 - v2 / (10 : Int32) * (10 : Int32)) + (1 : Int32))), (0, .ref a_t), (4, .int v4)]) hx hb dX6_writeIn_53 rfl hl (by decide) rfl (fun ls hl => ?_)
        refine lv_iinc (v := (v4 + (-1 : Int32))) (lv' := [(4, .int (v4 + (-1 : Int32))), (2, .int (v2 / (10 : Int32))), (3, .int (v3 * (x_t_weight (ix ((v2 - v2 / (10 : Int32) * (10 : Int32)) + (1 : Int32)))))), (5, .int ((v2 - v2 / (10 : Int32) * (10 : Int32)) + (1 : Int32))), (0, .ref a_t)]) hx hb dX6_writeIn_54 hl (k := 4) rfl rfl (by decide) rfl (fun ls hl => ?_)
        refine lv_goto (tgt := 12) hx hb dX6_writeIn_57 (by decide) ?_
        exact ih12 (v2 / (10 : Int32)) (v3 * (x_t_weight (ix ((v2 - v2 / (10 : Int32) * (10 : Int32)) + (1 : Int32))))) (v4 + (-1 : Int32)) (upd m_t_count (ix (x_t_open (ix v4))) ((v2 - v2 / (10 : Int32) * (10 : Int32)) + (1 : Int32))) hf H locs ls hP hD hS (lv_sub hl [4, 1, 2, 0] rfl)
  have hS : va_S A s.heap s.heap [] := va_S.rf
  obtain ⟨H, hH9⟩ : ∃ z, z = s.heap := ⟨_, rfl⟩
  obtain ⟨locs, hL9⟩ : ∃ z : List Loc, z = [] := ⟨_, rfl⟩
  rw [← hL9]
  rw [← hL9] at hS
  have hP : va_P E.1 vwCl (wd_X6_writeIn E a_t a_t_count a_t_open a_t_weight x_t_signs w_t_pad x_t_places w_t_page x_t_begins x_t_court x_t_allowed x_t_sights w_t_sight x_t_opens w_t_behind w_t_outs w_t_pack w_t_image w_t_isKept x_t_count x_t_open x_t_weight) H := by rw [hH9]; exact hP
  have hS : va_S A s.heap H locs := by rw [hH9]; exact hS
  suffices hgoal : W p l e (rmm 0 0) s m ([.ref a_t, .int p1] : List Value).toArray below meth c H locs 0 0 Q (F0 m 0 ls []) by rw [hH9] at hgoal; exact hgoal
  rw [f_X6_writeIn] at hf
  refine lv_iload_n hx hb dX6_writeIn_0 rfl (lv_at hl 1 rfl) ?_
  refine lv_istore_n (lv' := [(2, .int p1), (0, .ref a_t), (1, .int p1)]) hx hb dX6_writeIn_1 rfl hl (by decide) rfl (fun ls hl => ?_)
  refine lv_iconst (v := (1 : Int32)) hx hb dX6_writeIn_2 (by decide) ?_
  refine lv_istore_n (lv' := [(3, .int (1 : Int32)), (2, .int p1), (0, .ref a_t), (1, .int p1)]) hx hb dX6_writeIn_3 rfl hl (by decide) rfl (fun ls hl => ?_)
  refine lv_aload_n hx hb dX6_writeIn_4 rfl (lv_at hl 2 rfl) ?_
  refine gf_X6_89 X hP 0 rfl rfl dX6_writeIn_5 ?_
  refine lv_iconst (v := (1 : Int32)) hx hb dX6_writeIn_8 (by decide) ?_
  refine lv_isub hx hb dX6_writeIn_9 ?_
  refine lv_istore (lv' := [(4, .int (x_t_opens - (1 : Int32))), (3, .int (1 : Int32)), (2, .int p1), (0, .ref a_t), (1, .int p1)]) hx hb dX6_writeIn_10 hl (by decide) rfl (fun ls hl => ?_)
  exact L12 FU p1 (1 : Int32) (x_t_opens - (1 : Int32)) x_t_count hf H locs ls hP hD hS (lv_sub hl [3, 2, 1, 0] rfl)
abbrev wd_X6_wholeWeight (E : EN) (a_t : Nat) (a_t_weight : Nat) (x_t_signs : Int32) (w_t_pad : Value) (x_t_places : Int32) (w_t_page : Value) (x_t_begins : Int32) (x_t_court : Int32) (x_t_allowed : Int32) (x_t_sights : Int32) (w_t_sight : Value) (w_t_count : Value) (x_t_opens : Int32) (w_t_open : Value) (w_t_behind : Value) (w_t_outs : Value) (w_t_pack : Value) (w_t_image : Value) (w_t_isKept : Value) (x_t_weight : Nat → Int32) : va_W := [(a_t, e_O 6 [.int x_t_signs, w_t_pad, .int x_t_places, w_t_page, .int x_t_begins, .int x_t_court, .int x_t_allowed, .ref a_t_weight, .int x_t_sights, w_t_sight, w_t_count, .int x_t_opens, w_t_open, w_t_behind, w_t_outs, w_t_pack, w_t_image, w_t_isKept]), (a_t_weight, e_I E 11 x_t_weight)]
def f_X6_wholeWeight_4 (x_t_opens : Int32) (x_t_weight : Nat → Int32)  : Nat → Int64 → Int32 → Option (Int64)
  | 0, _, _ => none
  | n_ + 1, v1, v3 =>
    if x_t_opens ≤ v3 then
      some v1
    else
      Option.bind (f_X6_allWeights x_t_weight) (fun r14 =>
      f_X6_wholeWeight_4 x_t_opens x_t_weight n_ (v1 * r14.toInt64) (v3 + (1 : Int32)))
def f_X6_wholeWeight (x_t_opens : Int32) (x_t_weight : Nat → Int32) : Option (Int64) :=
  f_X6_wholeWeight_4 x_t_opens x_t_weight FU (1 : Int64) (0 : Int32)
set_option maxHeartbeats 4000000 in
set_option maxRecDepth 100000 in
theorem c_X6_wholeWeight (l : Launch) (E : EN) (a_t a_t_weight : Nat) (x_t_signs : Int32) (w_t_pad : Value) (x_t_places : Int32) (w_t_page : Value) (x_t_begins : Int32) (x_t_court : Int32) (x_t_allowed : Int32) (x_t_sights : Int32) (w_t_sight : Value) (w_t_count : Value) (x_t_opens : Int32) (w_t_open : Value) (w_t_behind : Value) (w_t_outs : Value) (w_t_pack : Value) (w_t_image : Value) (w_t_isKept : Value) (x_t_weight : Nat → Int32)  (res : Int64) (hf : f_X6_wholeWeight x_t_opens x_t_weight = some res) : CtL l yX6_wholeWeight cX6_wholeWeight 4 1 22 E [.ref a_t] (wd_X6_wholeWeight E a_t a_t_weight x_t_signs w_t_pad x_t_places w_t_page x_t_begins x_t_court x_t_allowed x_t_sights w_t_sight w_t_count x_t_opens w_t_open w_t_behind w_t_outs w_t_pack w_t_image w_t_isKept x_t_weight) (wd_X6_wholeWeight E a_t a_t_weight x_t_signs w_t_pad x_t_places w_t_page x_t_begins x_t_court x_t_allowed x_t_sights w_t_sight w_t_count x_t_opens w_t_open w_t_behind w_t_outs w_t_pack w_t_image w_t_isKept x_t_weight) res := by
  refine CtL.of RX6 (by decide) rfl (Nat.le_of_ble_eq_true rfl) ?_
  intro p e s m below meth c A Q ls X hA hP hD hl fin
  have hx := X.1
  have hb := X.2.1
  have hl : lv_has ls 4 [(0, .ref a_t)] := hl
  have fin' : ∀ (fr0 : Int64), some fr0 = some res → ∀ (pc : Nat) (ls : Array Slot) (H : Heap) (locs : List Loc), decode cX6_wholeWeight pc = .ok (.lreturn, 1) → va_P E.1 vwCl (wd_X6_wholeWeight E a_t a_t_weight x_t_signs w_t_pad x_t_places w_t_page x_t_begins x_t_court x_t_allowed x_t_sights w_t_sight w_t_count x_t_opens w_t_open w_t_behind w_t_outs w_t_pack w_t_image w_t_isKept x_t_weight) H → va_D A (wd_X6_wholeWeight E a_t a_t_weight x_t_signs w_t_pad x_t_places w_t_page x_t_begins x_t_court x_t_allowed x_t_sights w_t_sight w_t_count x_t_opens w_t_open w_t_behind w_t_outs w_t_pack w_t_image w_t_isKept x_t_weight) → va_S A s.heap H locs → W p l e (rmm 1 22) s m ([.ref a_t] : List Value).toArray below meth c H locs 0 0 Q (F0 m pc ls [.long fr0]) := by
    intro fr0 he
    cases he
    exact fin
  have L4 : ∀ (n4 : Nat) (v1 : Int64) (v3 : Int32), f_X6_wholeWeight_4 x_t_opens x_t_weight n4 v1 v3 = some res → ∀ (H : Heap) (locs : List Loc) (ls : Array Slot), va_P E.1 vwCl (wd_X6_wholeWeight E a_t a_t_weight x_t_signs w_t_pad x_t_places w_t_page x_t_begins x_t_court x_t_allowed x_t_sights w_t_sight w_t_count x_t_opens w_t_open w_t_behind w_t_outs w_t_pack w_t_image w_t_isKept x_t_weight) H → va_D A (wd_X6_wholeWeight E a_t a_t_weight x_t_signs w_t_pad x_t_places w_t_page x_t_begins x_t_court x_t_allowed x_t_sights w_t_sight w_t_count x_t_opens w_t_open w_t_behind w_t_outs w_t_pack w_t_image w_t_isKept x_t_weight) → va_S A s.heap H locs → lv_has ls 4 [(0, .ref a_t), (1, .long v1), (3, .int v3)] → W p l e (rmm 1 22) s m ([.ref a_t] : List Value).toArray below meth c H locs 0 0 Q (F0 m 4 ls []) := by
    intro n4
    induction n4 with
    | zero => intro v1 v3 hf; rw [f_X6_wholeWeight_4] at hf; cases hf
    | succ n4 ih4 =>
      intro v1 v3 hf H locs ls hP hD hS hl
      rw [f_X6_wholeWeight_4] at hf
      refine lv_iload_n hx hb dX6_wholeWeight_4 rfl (lv_at hl 2 rfl) ?_
      refine lv_aload_n hx hb dX6_wholeWeight_5 rfl (lv_at hl 0 rfl) ?_
      refine gf_X6_89 X hP 0 rfl rfl dX6_wholeWeight_6 ?_
      refine lv_icmp_ge (tgt := 26) hx hb dX6_wholeWeight_9 (by decide) (fun c_9 => ?_) (fun c_9 => ?_)
      · have hf := if_t c_9 hf
        refine lv_lload_n hx hb dX6_wholeWeight_26 rfl (lv_at hl 1 rfl) ?_
        exact fin' _ hf 27 ls H locs dX6_wholeWeight_27 hP hD hS
      · have hf := if_f c_9 hf
        refine lv_lload_n hx hb dX6_wholeWeight_12 rfl (lv_at hl 1 rfl) ?_
        refine lv_aload_n hx hb dX6_wholeWeight_13 rfl (lv_at hl 0 rfl) ?_
        obtain ⟨r14, hc14, hf⟩ := bd_some hf
        refine cV_I X hA hP hD hS hl.1 (c_X6_allWeights l E a_t a_t_weight x_t_signs w_t_pad x_t_places w_t_page x_t_begins x_t_court x_t_allowed x_t_sights w_t_sight w_t_count x_t_opens w_t_open w_t_behind w_t_outs w_t_pack w_t_image w_t_isKept x_t_weight r14 hc14) 0 k_730 mw_X6_allWeights hd_X6_allWeights ⟨Nat.le_of_ble_eq_true rfl, Nat.le_of_ble_eq_true rfl⟩ [0, 1] [] [0, 1] rfl rfl (wr := []) rfl rfl rfl 6 0 rfl rfl rfl rfl rfl (Nat.le_of_ble_eq_true rfl) rfl (ws' := (wd_X6_wholeWeight E a_t a_t_weight x_t_signs w_t_pad x_t_places w_t_page x_t_begins x_t_court x_t_allowed x_t_sights w_t_sight w_t_count x_t_opens w_t_open w_t_behind w_t_outs w_t_pack w_t_image w_t_isKept x_t_weight)) rfl ⟨Nat.le_of_ble_eq_true rfl, Nat.le_of_ble_eq_true rfl⟩ dX6_wholeWeight_14 (fun H locs hP hD hS => ?_)
        refine lv_i2l (v := r14.toInt64) hx hb dX6_wholeWeight_17 rfl ?_
        refine lv_lmul hx hb dX6_wholeWeight_18 ?_
        refine lv_lstore_n (lv' := [(1, .long (v1 * r14.toInt64)), (0, .ref a_t), (3, .int v3)]) hx hb dX6_wholeWeight_19 rfl hl (by decide) rfl (fun ls hl => ?_)
        refine lv_iinc (v := (v3 + (1 : Int32))) (lv' := [(3, .int (v3 + (1 : Int32))), (1, .long (v1 * r14.toInt64)), (0, .ref a_t)]) hx hb dX6_wholeWeight_20 hl (k := 2) rfl rfl (by decide) rfl (fun ls hl => ?_)
        refine lv_goto (tgt := 4) hx hb dX6_wholeWeight_23 (by decide) ?_
        exact ih4 (v1 * r14.toInt64) (v3 + (1 : Int32)) hf H locs ls hP hD hS (lv_sub hl [2, 1, 0] rfl)
  have hS : va_S A s.heap s.heap [] := va_S.rf
  obtain ⟨H, hH9⟩ : ∃ z, z = s.heap := ⟨_, rfl⟩
  obtain ⟨locs, hL9⟩ : ∃ z : List Loc, z = [] := ⟨_, rfl⟩
  rw [← hL9]
  rw [← hL9] at hS
  have hP : va_P E.1 vwCl (wd_X6_wholeWeight E a_t a_t_weight x_t_signs w_t_pad x_t_places w_t_page x_t_begins x_t_court x_t_allowed x_t_sights w_t_sight w_t_count x_t_opens w_t_open w_t_behind w_t_outs w_t_pack w_t_image w_t_isKept x_t_weight) H := by rw [hH9]; exact hP
  have hS : va_S A s.heap H locs := by rw [hH9]; exact hS
  suffices hgoal : W p l e (rmm 1 22) s m ([.ref a_t] : List Value).toArray below meth c H locs 0 0 Q (F0 m 0 ls []) by rw [hH9] at hgoal; exact hgoal
  rw [f_X6_wholeWeight] at hf
  refine lv_lconst (v := (1 : Int64)) hx hb dX6_wholeWeight_0 (by decide) ?_
  refine lv_lstore_n (lv' := [(1, .long (1 : Int64)), (0, .ref a_t)]) hx hb dX6_wholeWeight_1 rfl hl (by decide) rfl (fun ls hl => ?_)
  refine lv_iconst (v := (0 : Int32)) hx hb dX6_wholeWeight_2 (by decide) ?_
  refine lv_istore_n (lv' := [(3, .int (0 : Int32)), (1, .long (1 : Int64)), (0, .ref a_t)]) hx hb dX6_wholeWeight_3 rfl hl (by decide) rfl (fun ls hl => ?_)
  exact L4 FU (1 : Int64) (0 : Int32) hf H locs ls hP hD hS (lv_sub hl [2, 1, 0] rfl)
abbrev wd_X6_term (E : EN)   : va_W := []
def f_X6_term_6 (p1 : Int64) (p2 : Int64) (p3 : Int32)  : Nat → Int64 → Int64 → Option (Int64)
  | 0, _, _ => none
  | n_ + 1, v5, v7 =>
    if (lg_cmp v7 (0 : Int64)) = 0 then
      if p3 = 0 then
        ck (decide (¬ v5 = 0)) (
        some (p1 / v5))
      else
        ck (decide (¬ v5 = 0)) (
        some (p2 / v5))
    else
      ck (decide (¬ v7 = 0)) (
      f_X6_term_6 p1 p2 p3 n_ v7 (v5 - v5 / v7 * v7))
def f_X6_term (p1 : Int64) (p2 : Int64) (p3 : Int32) : Option (Int64) :=
  f_X6_term_6 p1 p2 p3 FU p1 p2
set_option maxHeartbeats 4000000 in
set_option maxRecDepth 100000 in
theorem c_X6_term (l : Launch) (E : EN)  (p1 : Int64) (p2 : Int64) (p3 : Int32) (res : Int64) (hf : f_X6_term p1 p2 p3 = some res) : CtL l yX6_term cX6_term 11 0 0 E [.long p1, .long p2, .int p3] (wd_X6_term E) (wd_X6_term E) res := by
  refine CtL.of RX6 (by decide) rfl (Nat.le_of_ble_eq_true rfl) ?_
  intro p e s m below meth c A Q ls X hA hP hD hl fin
  have hx := X.1
  have hb := X.2.1
  have hl : lv_has ls 11 [(0, .long p1), (2, .long p2), (4, .int p3)] := hl
  have fin' : ∀ (fr0 : Int64), some fr0 = some res → ∀ (pc : Nat) (ls : Array Slot) (H : Heap) (locs : List Loc), decode cX6_term pc = .ok (.lreturn, 1) → va_P E.1 vwCl (wd_X6_term E) H → va_D A (wd_X6_term E) → va_S A s.heap H locs → W p l e (rmm 0 0) s m ([.long p1, .long p2, .int p3] : List Value).toArray below meth c H locs 0 0 Q (F0 m pc ls [.long fr0]) := by
    intro fr0 he
    cases he
    exact fin
  have L6 : ∀ (n6 : Nat) (v5 : Int64) (v7 : Int64), f_X6_term_6 p1 p2 p3 n6 v5 v7 = some res → ∀ (H : Heap) (locs : List Loc) (ls : Array Slot), va_P E.1 vwCl (wd_X6_term E) H → va_D A (wd_X6_term E) → va_S A s.heap H locs → lv_has ls 11 [(0, .long p1), (2, .long p2), (4, .int p3), (5, .long v5), (7, .long v7)] → W p l e (rmm 0 0) s m ([.long p1, .long p2, .int p3] : List Value).toArray below meth c H locs 0 0 Q (F0 m 6 ls []) := by
    intro n6
    induction n6 with
    | zero => intro v5 v7 hf; rw [f_X6_term_6] at hf; cases hf
    | succ n6 ih6 =>
      intro v5 v7 hf H locs ls hP hD hS hl
      rw [f_X6_term_6] at hf
      refine lv_lload hx hb dX6_term_6 (lv_at hl 4 rfl) ?_
      refine lv_lconst (v := (0 : Int64)) hx hb dX6_term_8 (by decide) ?_
      refine W.lcmp hx hb dX6_term_9 ?_
      refine lv_if_eq (tgt := 31) hx hb dX6_term_10 (by decide) (fun c_10 => ?_) (fun c_10 => ?_)
      · have hf := if_t c_10 hf
        refine lv_iload hx hb dX6_term_31 (lv_at hl 2 rfl) ?_
        refine lv_if_ne (tgt := 43) hx hb dX6_term_33 (by decide) (fun c_33 => ?_) (fun c_33 => ?_)
        · have hf := if_f c_33 hf
          refine lv_lload_n hx hb dX6_term_43 rfl (lv_at hl 1 rfl) ?_
          refine lv_lload hx hb dX6_term_44 (lv_at hl 3 rfl) ?_
          obtain ⟨hz46, hf⟩ := ck_some hf
          refine lv_ldiv hx hb dX6_term_46 (of_decide_eq_true hz46) ?_
          exact fin' _ hf 47 ls H locs dX6_term_47 hP hD hS
        · have hf := if_t c_33 hf
          refine lv_lload_n hx hb dX6_term_36 rfl (lv_at hl 0 rfl) ?_
          refine lv_lload hx hb dX6_term_37 (lv_at hl 3 rfl) ?_
          obtain ⟨hz39, hf⟩ := ck_some hf
          refine lv_ldiv hx hb dX6_term_39 (of_decide_eq_true hz39) ?_
          refine lv_goto (tgt := 47) hx hb dX6_term_40 (by decide) ?_
          exact fin' _ hf 47 ls H locs dX6_term_47 hP hD hS
      · have hf := if_f c_10 hf
        refine lv_lload hx hb dX6_term_13 (lv_at hl 3 rfl) ?_
        refine lv_lload hx hb dX6_term_15 (lv_at hl 4 rfl) ?_
        obtain ⟨hz17, hf⟩ := ck_some hf
        refine lv_lrem hx hb dX6_term_17 (of_decide_eq_true hz17) ?_
        refine lv_lstore (lv' := [(9, .long (v5 - v5 / v7 * v7)), (0, .long p1), (2, .long p2), (4, .int p3), (5, .long v5), (7, .long v7)]) hx hb dX6_term_18 hl (by decide) rfl (fun ls hl => ?_)
        refine lv_lload hx hb dX6_term_20 (lv_at hl 5 rfl) ?_
        refine lv_lstore (lv' := [(5, .long v7), (9, .long (v5 - v5 / v7 * v7)), (0, .long p1), (2, .long p2), (4, .int p3), (7, .long v7)]) hx hb dX6_term_22 hl (by decide) rfl (fun ls hl => ?_)
        refine lv_lload hx hb dX6_term_24 (lv_at hl 1 rfl) ?_
        refine lv_lstore (lv' := [(7, .long (v5 - v5 / v7 * v7)), (5, .long v7), (9, .long (v5 - v5 / v7 * v7)), (0, .long p1), (2, .long p2), (4, .int p3)]) hx hb dX6_term_26 hl (by decide) rfl (fun ls hl => ?_)
        refine lv_goto (tgt := 6) hx hb dX6_term_28 (by decide) ?_
        exact ih6 v7 (v5 - v5 / v7 * v7) hf H locs ls hP hD hS (lv_sub hl [3, 4, 5, 1, 0] rfl)
  have hS : va_S A s.heap s.heap [] := va_S.rf
  obtain ⟨H, hH9⟩ : ∃ z, z = s.heap := ⟨_, rfl⟩
  obtain ⟨locs, hL9⟩ : ∃ z : List Loc, z = [] := ⟨_, rfl⟩
  rw [← hL9]
  rw [← hL9] at hS
  have hP : va_P E.1 vwCl (wd_X6_term E) H := by rw [hH9]; exact hP
  have hS : va_S A s.heap H locs := by rw [hH9]; exact hS
  suffices hgoal : W p l e (rmm 0 0) s m ([.long p1, .long p2, .int p3] : List Value).toArray below meth c H locs 0 0 Q (F0 m 0 ls []) by rw [hH9] at hgoal; exact hgoal
  rw [f_X6_term] at hf
  refine lv_lload_n hx hb dX6_term_0 rfl (lv_at hl 0 rfl) ?_
  refine lv_lstore (lv' := [(5, .long p1), (0, .long p1), (2, .long p2), (4, .int p3)]) hx hb dX6_term_1 hl (by decide) rfl (fun ls hl => ?_)
  refine lv_lload_n hx hb dX6_term_3 rfl (lv_at hl 2 rfl) ?_
  refine lv_lstore (lv' := [(7, .long p2), (5, .long p1), (0, .long p1), (2, .long p2), (4, .int p3)]) hx hb dX6_term_4 hl (by decide) rfl (fun ls hl => ?_)
  exact L6 FU p1 p2 hf H locs ls hP hD hS (lv_sub hl [2, 3, 4, 1, 0] rfl)
abbrev wd_X6_likely (E : EN) (a_t : Nat) (a_t_page : Nat) (a_t_count : Nat) (a_t_open : Nat) (a_t_weight : Nat) (x_t_signs : Int32) (w_t_pad : Value) (x_t_places : Int32) (x_t_begins : Int32) (x_t_court : Int32) (x_t_allowed : Int32) (x_t_sights : Int32) (w_t_sight : Value) (x_t_opens : Int32) (w_t_behind : Value) (w_t_outs : Value) (w_t_pack : Value) (w_t_image : Value) (w_t_isKept : Value) (x_t_page : Nat → Int32) (x_t_count : Nat → Int32) (x_t_open : Nat → Int32) (x_t_weight : Nat → Int32) : va_W := [(a_t, e_O 6 [.int x_t_signs, w_t_pad, .int x_t_places, .ref a_t_page, .int x_t_begins, .int x_t_court, .int x_t_allowed, .ref a_t_weight, .int x_t_sights, w_t_sight, .ref a_t_count, .int x_t_opens, .ref a_t_open, w_t_behind, w_t_outs, w_t_pack, w_t_image, w_t_isKept]), (a_t_page, e_I E 40 x_t_page), (a_t_count, e_I E 40 x_t_count), (a_t_open, e_I E 5 x_t_open), (a_t_weight, e_I E 11 x_t_weight)]
def f_X6_likely_60 (p1 : Int32) (p2 : Int32) (p3 : Int32) (x_t_places : Int32) (x_t_weight : Nat → Int32)  : Nat → Int64 → Int32 → Int32 → (Nat → Int32) → (Nat → Int32) → Option (Int64 × Int32 × (Nat → Int32) × (Nat → Int32))
  | 0, _, _, _, _, _ => none
  | n_ + 1, v4, v6, m_t_opens, m_t_count, m_t_open =>
    Option.bind (f_X6_codes m_t_opens) (fun r63 =>
    if r63 ≤ v6 then
      Option.bind (f_X6_wholeWeight m_t_opens x_t_weight) (fun r112 =>
      Option.bind (f_X6_term v4 r112 p3) (fun r116 =>
      some (r116, m_t_opens, m_t_count, m_t_open)))
    else
      Option.bind (f_X6_writeIn v6 m_t_opens m_t_count m_t_open x_t_weight) (fun r72 =>
      if r72.1 ≤ 0 then
        f_X6_likely_60 p1 p2 p3 x_t_places x_t_weight n_ (v4 + (0 : Int64)) (v6 + (1 : Int32)) m_t_opens r72.2 m_t_open
      else
        Option.bind (f_X6_meetOf p1 p2 x_t_places r72.2) (fun r87 =>
        if r87 < 0 then
          f_X6_likely_60 p1 p2 p3 x_t_places x_t_weight n_ (v4 + (0 : Int64)) (v6 + (1 : Int32)) m_t_opens r72.2 m_t_open
        else
          f_X6_likely_60 p1 p2 p3 x_t_places x_t_weight n_ (v4 + r72.1.toInt64) (v6 + (1 : Int32)) m_t_opens r72.2 m_t_open)))
def f_X6_likely (p1 : Int32) (p2 : Int32) (p3 : Int32) (x_t_places : Int32) (x_t_court : Int32) (x_t_opens : Int32) (x_t_page : Nat → Int32) (x_t_count : Nat → Int32) (x_t_open : Nat → Int32) (x_t_weight : Nat → Int32) : Option (Int64 × Int32 × (Nat → Int32) × (Nat → Int32)) :=
  Option.bind (f_X6_isPlace p1 x_t_places) (fun r2 =>
  if r2 = 0 then
    some ((-1000000000000000001 : Int64), x_t_opens, x_t_count, x_t_open)
  else
    Option.bind (f_X6_isPlace p2 x_t_places) (fun r10 =>
    if r10 = 0 then
      some ((-1000000000000000001 : Int64), x_t_opens, x_t_count, x_t_open)
    else
      Option.bind (f_X6_in p3 (0 : Int32) (1 : Int32)) (fun r23 =>
      if r23 = 0 then
        some ((-1000000000000000002 : Int64), x_t_opens, x_t_count, x_t_open)
      else
        Option.bind (f_X6_many (42 : Int32) x_t_places x_t_page) (fun r36 =>
        if r36 ≤ 0 then
          Option.bind (f_X6_lay x_t_court x_t_places x_t_count x_t_page x_t_open) (fun r51 =>
          f_X6_likely_60 p1 p2 p3 x_t_places x_t_weight FU (0 : Int64) (0 : Int32) r51.1 r51.2.1 r51.2.2)
        else
          some ((-1000000000000000003 : Int64), x_t_opens, x_t_count, x_t_open)))))
set_option maxHeartbeats 4000000 in
set_option maxRecDepth 100000 in
theorem c_X6_likely (l : Launch) (E : EN) (a_t a_t_page a_t_count a_t_open a_t_weight : Nat) (x_t_signs : Int32) (w_t_pad : Value) (x_t_places : Int32) (x_t_begins : Int32) (x_t_court : Int32) (x_t_allowed : Int32) (x_t_sights : Int32) (w_t_sight : Value) (x_t_opens : Int32) (w_t_behind : Value) (w_t_outs : Value) (w_t_pack : Value) (w_t_image : Value) (w_t_isKept : Value) (x_t_page : Nat → Int32) (x_t_count : Nat → Int32) (x_t_open : Nat → Int32) (x_t_weight : Nat → Int32) (p1 : Int32) (p2 : Int32) (p3 : Int32) (res : Int64 × Int32 × (Nat → Int32) × (Nat → Int32)) (hf : f_X6_likely p1 p2 p3 x_t_places x_t_court x_t_opens x_t_page x_t_count x_t_open x_t_weight = some res) : CtL l yX6_likely cX6_likely 8 3 65 E [.ref a_t, .int p1, .int p2, .int p3] (wd_X6_likely E a_t a_t_page a_t_count a_t_open a_t_weight x_t_signs w_t_pad x_t_places x_t_begins x_t_court x_t_allowed x_t_sights w_t_sight x_t_opens w_t_behind w_t_outs w_t_pack w_t_image w_t_isKept x_t_page x_t_count x_t_open x_t_weight) (wd_X6_likely E a_t a_t_page a_t_count a_t_open a_t_weight x_t_signs w_t_pad x_t_places x_t_begins x_t_court x_t_allowed x_t_sights w_t_sight res.2.1 w_t_behind w_t_outs w_t_pack w_t_image w_t_isKept x_t_page res.2.2.1 res.2.2.2 x_t_weight) res.1 := by
  refine CtL.of RX6 (by decide) rfl (Nat.le_of_ble_eq_true rfl) ?_
  intro p e s m below meth c A Q ls X hA hP hD hl fin
  have hx := X.1
  have hb := X.2.1
  have hl : lv_has ls 8 [(0, .ref a_t), (1, .int p1), (2, .int p2), (3, .int p3)] := hl
  have fin' : ∀ (fr0 : Int64) (fr1 : Int32) (fr2 : (Nat → Int32)) (fr3 : (Nat → Int32)), some (fr0, fr1, fr2, fr3) = some res → ∀ (pc : Nat) (ls : Array Slot) (H : Heap) (locs : List Loc), decode cX6_likely pc = .ok (.lreturn, 1) → va_P E.1 vwCl (wd_X6_likely E a_t a_t_page a_t_count a_t_open a_t_weight x_t_signs w_t_pad x_t_places x_t_begins x_t_court x_t_allowed x_t_sights w_t_sight fr1 w_t_behind w_t_outs w_t_pack w_t_image w_t_isKept x_t_page fr2 fr3 x_t_weight) H → va_D A (wd_X6_likely E a_t a_t_page a_t_count a_t_open a_t_weight x_t_signs w_t_pad x_t_places x_t_begins x_t_court x_t_allowed x_t_sights w_t_sight fr1 w_t_behind w_t_outs w_t_pack w_t_image w_t_isKept x_t_page fr2 fr3 x_t_weight) → va_S A s.heap H locs → W p l e (rmm 3 65) s m ([.ref a_t, .int p1, .int p2, .int p3] : List Value).toArray below meth c H locs 0 0 Q (F0 m pc ls [.long fr0]) := by
    intro fr0 fr1 fr2 fr3 he
    cases he
    exact fin
  have L60 : ∀ (n60 : Nat) (v4 : Int64) (v6 : Int32) (m_t_opens : Int32) (m_t_count : Nat → Int32) (m_t_open : Nat → Int32), f_X6_likely_60 p1 p2 p3 x_t_places x_t_weight n60 v4 v6 m_t_opens m_t_count m_t_open = some res → ∀ (H : Heap) (locs : List Loc) (ls : Array Slot), va_P E.1 vwCl (wd_X6_likely E a_t a_t_page a_t_count a_t_open a_t_weight x_t_signs w_t_pad x_t_places x_t_begins x_t_court x_t_allowed x_t_sights w_t_sight m_t_opens w_t_behind w_t_outs w_t_pack w_t_image w_t_isKept x_t_page m_t_count m_t_open x_t_weight) H → va_D A (wd_X6_likely E a_t a_t_page a_t_count a_t_open a_t_weight x_t_signs w_t_pad x_t_places x_t_begins x_t_court x_t_allowed x_t_sights w_t_sight m_t_opens w_t_behind w_t_outs w_t_pack w_t_image w_t_isKept x_t_page m_t_count m_t_open x_t_weight) → va_S A s.heap H locs → lv_has ls 8 [(0, .ref a_t), (1, .int p1), (2, .int p2), (3, .int p3), (4, .long v4), (6, .int v6)] → W p l e (rmm 3 65) s m ([.ref a_t, .int p1, .int p2, .int p3] : List Value).toArray below meth c H locs 0 0 Q (F0 m 60 ls []) := by
    intro n60
    induction n60 with
    | zero => intro v4 v6 m_t_opens m_t_count m_t_open hf; rw [f_X6_likely_60] at hf; cases hf
    | succ n60 ih60 =>
      intro v4 v6 m_t_opens m_t_count m_t_open hf H locs ls hP hD hS hl
      rw [f_X6_likely_60] at hf
      refine lv_iload hx hb dX6_likely_60 (lv_at hl 5 rfl) ?_
      refine lv_aload_n hx hb dX6_likely_62 rfl (lv_at hl 0 rfl) ?_
      obtain ⟨r63, hc63, hf⟩ := bd_some hf
      refine cV_I X hA hP hD hS hl.1 (c_X6_codes l E a_t x_t_signs w_t_pad x_t_places (.ref a_t_page) x_t_begins x_t_court x_t_allowed (.ref a_t_weight) x_t_sights w_t_sight (.ref a_t_count) m_t_opens (.ref a_t_open) w_t_behind w_t_outs w_t_pack w_t_image w_t_isKept r63 hc63) 0 k_836 mw_X6_codes hd_X6_codes ⟨Nat.le_of_ble_eq_true rfl, Nat.le_of_ble_eq_true rfl⟩ [0] [1, 2, 3, 4] [4, 0, 1, 2, 3] rfl rfl (wr := [1, 2, 3, 4].filterMap (fun i => (wd_X6_likely E a_t a_t_page a_t_count a_t_open a_t_weight x_t_signs w_t_pad x_t_places x_t_begins x_t_court x_t_allowed x_t_sights w_t_sight m_t_opens w_t_behind w_t_outs w_t_pack w_t_image w_t_isKept x_t_page m_t_count m_t_open x_t_weight)[i]?)) rfl rfl rfl 6 0 rfl rfl rfl rfl rfl (Nat.le_of_ble_eq_true rfl) rfl (ws' := (wd_X6_likely E a_t a_t_page a_t_count a_t_open a_t_weight x_t_signs w_t_pad x_t_places x_t_begins x_t_court x_t_allowed x_t_sights w_t_sight m_t_opens w_t_behind w_t_outs w_t_pack w_t_image w_t_isKept x_t_page m_t_count m_t_open x_t_weight)) rfl ⟨Nat.le_of_ble_eq_true rfl, Nat.le_of_ble_eq_true rfl⟩ dX6_likely_63 (fun H locs hP hD hS => ?_)
      refine lv_icmp_ge (tgt := 109) hx hb dX6_likely_66 (by decide) (fun c_66 => ?_) (fun c_66 => ?_)
      · have hf := if_t c_66 hf
        refine lv_lload hx hb dX6_likely_109 (lv_at hl 4 rfl) ?_
        refine lv_aload_n hx hb dX6_likely_111 rfl (lv_at hl 0 rfl) ?_
        obtain ⟨r112, hc112, hf⟩ := bd_some hf
        refine cV_L X hA hP hD hS hl.1 (c_X6_wholeWeight l E a_t a_t_weight x_t_signs w_t_pad x_t_places (.ref a_t_page) x_t_begins x_t_court x_t_allowed x_t_sights w_t_sight (.ref a_t_count) m_t_opens (.ref a_t_open) w_t_behind w_t_outs w_t_pack w_t_image w_t_isKept x_t_weight r112 hc112) 0 k_844 mw_X6_wholeWeight hd_X6_wholeWeight ⟨Nat.le_of_ble_eq_true rfl, Nat.le_of_ble_eq_true rfl⟩ [0, 4] [1, 2, 3] [3, 0, 1, 2, 4] rfl rfl (wr := [1, 2, 3].filterMap (fun i => (wd_X6_likely E a_t a_t_page a_t_count a_t_open a_t_weight x_t_signs w_t_pad x_t_places x_t_begins x_t_court x_t_allowed x_t_sights w_t_sight m_t_opens w_t_behind w_t_outs w_t_pack w_t_image w_t_isKept x_t_page m_t_count m_t_open x_t_weight)[i]?)) rfl rfl rfl 6 0 rfl rfl rfl rfl rfl (Nat.le_of_ble_eq_true rfl) rfl (ws' := (wd_X6_likely E a_t a_t_page a_t_count a_t_open a_t_weight x_t_signs w_t_pad x_t_places x_t_begins x_t_court x_t_allowed x_t_sights w_t_sight m_t_opens w_t_behind w_t_outs w_t_pack w_t_image w_t_isKept x_t_page m_t_count m_t_open x_t_weight)) rfl ⟨Nat.le_of_ble_eq_true rfl, Nat.le_of_ble_eq_true rfl⟩ dX6_likely_112 (fun H locs hP hD hS => ?_)
        refine lv_iload_n hx hb dX6_likely_115 rfl (lv_at hl 3 rfl) ?_
        obtain ⟨r116, hc116, hf⟩ := bd_some hf
        refine cS_L X hA hP hD hS hl.1 (c_X6_term l E v4 r112 p3 r116 hc116) 3 k_848 mw_X6_term hd_X6_term ⟨Nat.le_of_ble_eq_true rfl, Nat.le_of_ble_eq_true rfl⟩ [] [0, 1, 2, 3, 4] [0, 1, 2, 3, 4] rfl rfl (wr := [0, 1, 2, 3, 4].filterMap (fun i => (wd_X6_likely E a_t a_t_page a_t_count a_t_open a_t_weight x_t_signs w_t_pad x_t_places x_t_begins x_t_court x_t_allowed x_t_sights w_t_sight m_t_opens w_t_behind w_t_outs w_t_pack w_t_image w_t_isKept x_t_page m_t_count m_t_open x_t_weight)[i]?)) rfl rfl rfl rfl rfl (Nat.le_of_ble_eq_true rfl) rfl (ws' := (wd_X6_likely E a_t a_t_page a_t_count a_t_open a_t_weight x_t_signs w_t_pad x_t_places x_t_begins x_t_court x_t_allowed x_t_sights w_t_sight m_t_opens w_t_behind w_t_outs w_t_pack w_t_image w_t_isKept x_t_page m_t_count m_t_open x_t_weight)) rfl ⟨Nat.le_of_ble_eq_true rfl, Nat.le_of_ble_eq_true rfl⟩ dX6_likely_116 (fun H locs hP hD hS => ?_)
        exact fin' _ _ _ _ hf 119 ls H locs dX6_likely_119 hP hD hS
      · have hf := if_f c_66 hf
        refine lv_aload_n hx hb dX6_likely_69 rfl (lv_at hl 0 rfl) ?_
        refine lv_iload hx hb dX6_likely_70 (lv_at hl 5 rfl) ?_
        obtain ⟨r72, hc72, hf⟩ := bd_some hf
        refine cV_I X hA hP hD hS hl.1 (c_X6_writeIn l E a_t a_t_count a_t_open a_t_weight x_t_signs w_t_pad x_t_places (.ref a_t_page) x_t_begins x_t_court x_t_allowed x_t_sights w_t_sight m_t_opens w_t_behind w_t_outs w_t_pack w_t_image w_t_isKept m_t_count m_t_open x_t_weight v6 r72 hc72) 1 k_840 mw_X6_writeIn hd_X6_writeIn ⟨Nat.le_of_ble_eq_true rfl, Nat.le_of_ble_eq_true rfl⟩ [0, 2, 3, 4] [1] [1, 0, 2, 3, 4] rfl rfl (wr := [1].filterMap (fun i => (wd_X6_likely E a_t a_t_page a_t_count a_t_open a_t_weight x_t_signs w_t_pad x_t_places x_t_begins x_t_court x_t_allowed x_t_sights w_t_sight m_t_opens w_t_behind w_t_outs w_t_pack w_t_image w_t_isKept x_t_page m_t_count m_t_open x_t_weight)[i]?)) rfl rfl rfl 6 0 rfl rfl rfl rfl rfl (Nat.le_of_ble_eq_true rfl) rfl (ws' := (wd_X6_likely E a_t a_t_page a_t_count a_t_open a_t_weight x_t_signs w_t_pad x_t_places x_t_begins x_t_court x_t_allowed x_t_sights w_t_sight m_t_opens w_t_behind w_t_outs w_t_pack w_t_image w_t_isKept x_t_page r72.2 m_t_open x_t_weight)) rfl ⟨Nat.le_of_ble_eq_true rfl, Nat.le_of_ble_eq_true rfl⟩ dX6_likely_72 (fun H locs hP hD hS => ?_)
        refine lv_istore (lv' := [(7, .int r72.1), (0, .ref a_t), (1, .int p1), (2, .int p2), (3, .int p3), (4, .long v4), (6, .int v6)]) hx hb dX6_likely_75 hl (by decide) rfl (fun ls hl => ?_)
        refine lv_lload hx hb dX6_likely_77 (lv_at hl 5 rfl) ?_
        refine lv_iload hx hb dX6_likely_79 (lv_at hl 0 rfl) ?_
        refine lv_if_le (tgt := 99) hx hb dX6_likely_81 (by decide) (fun c_81 => ?_) (fun c_81 => ?_)
        · have hf := if_t c_81 hf
          refine lv_lconst (v := (0 : Int64)) hx hb dX6_likely_99 (by decide) ?_
          refine lv_ladd hx hb dX6_likely_100 ?_
          refine lv_lstore (lv' := [(4, .long (v4 + (0 : Int64))), (7, .int r72.1), (0, .ref a_t), (1, .int p1), (2, .int p2), (3, .int p3), (6, .int v6)]) hx hb dX6_likely_101 hl (by decide) rfl (fun ls hl => ?_)
          refine lv_iinc (v := (v6 + (1 : Int32))) (lv' := [(6, .int (v6 + (1 : Int32))), (4, .long (v4 + (0 : Int64))), (7, .int r72.1), (0, .ref a_t), (1, .int p1), (2, .int p2), (3, .int p3)]) hx hb dX6_likely_103 hl (k := 6) rfl rfl (by decide) rfl (fun ls hl => ?_)
          refine lv_goto (tgt := 60) hx hb dX6_likely_106 (by decide) ?_
          exact ih60 (v4 + (0 : Int64)) (v6 + (1 : Int32)) m_t_opens r72.2 m_t_open hf H locs ls hP hD hS (lv_sub hl [3, 4, 5, 6, 1, 0] rfl)
        · have hf := if_f c_81 hf
          refine lv_aload_n hx hb dX6_likely_84 rfl (lv_at hl 1 rfl) ?_
          refine lv_iload_n hx hb dX6_likely_85 rfl (lv_at hl 2 rfl) ?_
          refine lv_iload_n hx hb dX6_likely_86 rfl (lv_at hl 3 rfl) ?_
          obtain ⟨r87, hc87, hf⟩ := bd_some hf
          refine cV_I X hA hP hD hS hl.1 (c_X6_meetOf l E a_t a_t_count x_t_signs w_t_pad x_t_places (.ref a_t_page) x_t_begins x_t_court x_t_allowed (.ref a_t_weight) x_t_sights w_t_sight m_t_opens (.ref a_t_open) w_t_behind w_t_outs w_t_pack w_t_image w_t_isKept r72.2 p1 p2 r87 hc87) 2 k_777 mw_X6_meetOf hd_X6_meetOf ⟨Nat.le_of_ble_eq_true rfl, Nat.le_of_ble_eq_true rfl⟩ [0, 2] [1, 3, 4] [3, 0, 4, 1, 2] rfl rfl (wr := [1, 3, 4].filterMap (fun i => (wd_X6_likely E a_t a_t_page a_t_count a_t_open a_t_weight x_t_signs w_t_pad x_t_places x_t_begins x_t_court x_t_allowed x_t_sights w_t_sight m_t_opens w_t_behind w_t_outs w_t_pack w_t_image w_t_isKept x_t_page r72.2 m_t_open x_t_weight)[i]?)) rfl rfl rfl 6 0 rfl rfl rfl rfl rfl (Nat.le_of_ble_eq_true rfl) rfl (ws' := (wd_X6_likely E a_t a_t_page a_t_count a_t_open a_t_weight x_t_signs w_t_pad x_t_places x_t_begins x_t_court x_t_allowed x_t_sights w_t_sight m_t_opens w_t_behind w_t_outs w_t_pack w_t_image w_t_isKept x_t_page r72.2 m_t_open x_t_weight)) rfl ⟨Nat.le_of_ble_eq_true rfl, Nat.le_of_ble_eq_true rfl⟩ dX6_likely_87 (fun H locs hP hD hS => ?_)
          refine lv_if_lt (tgt := 99) hx hb dX6_likely_90 (by decide) (fun c_90 => ?_) (fun c_90 => ?_)
          · have hf := if_t c_90 hf
            refine lv_lconst (v := (0 : Int64)) hx hb dX6_likely_99 (by decide) ?_
            refine lv_ladd hx hb dX6_likely_100 ?_
            refine lv_lstore (lv' := [(4, .long (v4 + (0 : Int64))), (7, .int r72.1), (0, .ref a_t), (1, .int p1), (2, .int p2), (3, .int p3), (6, .int v6)]) hx hb dX6_likely_101 hl (by decide) rfl (fun ls hl => ?_)
            refine lv_iinc (v := (v6 + (1 : Int32))) (lv' := [(6, .int (v6 + (1 : Int32))), (4, .long (v4 + (0 : Int64))), (7, .int r72.1), (0, .ref a_t), (1, .int p1), (2, .int p2), (3, .int p3)]) hx hb dX6_likely_103 hl (k := 6) rfl rfl (by decide) rfl (fun ls hl => ?_)
            refine lv_goto (tgt := 60) hx hb dX6_likely_106 (by decide) ?_
            exact ih60 (v4 + (0 : Int64)) (v6 + (1 : Int32)) m_t_opens r72.2 m_t_open hf H locs ls hP hD hS (lv_sub hl [3, 4, 5, 6, 1, 0] rfl)
          · have hf := if_f c_90 hf
            refine lv_iload hx hb dX6_likely_93 (lv_at hl 0 rfl) ?_
            refine lv_i2l (v := r72.1.toInt64) hx hb dX6_likely_95 rfl ?_
            refine lv_goto (tgt := 100) hx hb dX6_likely_96 (by decide) ?_
            refine lv_ladd hx hb dX6_likely_100 ?_
            refine lv_lstore (lv' := [(4, .long (v4 + r72.1.toInt64)), (7, .int r72.1), (0, .ref a_t), (1, .int p1), (2, .int p2), (3, .int p3), (6, .int v6)]) hx hb dX6_likely_101 hl (by decide) rfl (fun ls hl => ?_)
            refine lv_iinc (v := (v6 + (1 : Int32))) (lv' := [(6, .int (v6 + (1 : Int32))), (4, .long (v4 + r72.1.toInt64)), (7, .int r72.1), (0, .ref a_t), (1, .int p1), (2, .int p2), (3, .int p3)]) hx hb dX6_likely_103 hl (k := 6) rfl rfl (by decide) rfl (fun ls hl => ?_)
            refine lv_goto (tgt := 60) hx hb dX6_likely_106 (by decide) ?_
            exact ih60 (v4 + r72.1.toInt64) (v6 + (1 : Int32)) m_t_opens r72.2 m_t_open hf H locs ls hP hD hS (lv_sub hl [3, 4, 5, 6, 1, 0] rfl)
  have hS : va_S A s.heap s.heap [] := va_S.rf
  obtain ⟨H, hH9⟩ : ∃ z, z = s.heap := ⟨_, rfl⟩
  obtain ⟨locs, hL9⟩ : ∃ z : List Loc, z = [] := ⟨_, rfl⟩
  rw [← hL9]
  rw [← hL9] at hS
  have hP : va_P E.1 vwCl (wd_X6_likely E a_t a_t_page a_t_count a_t_open a_t_weight x_t_signs w_t_pad x_t_places x_t_begins x_t_court x_t_allowed x_t_sights w_t_sight x_t_opens w_t_behind w_t_outs w_t_pack w_t_image w_t_isKept x_t_page x_t_count x_t_open x_t_weight) H := by rw [hH9]; exact hP
  have hS : va_S A s.heap H locs := by rw [hH9]; exact hS
  suffices hgoal : W p l e (rmm 3 65) s m ([.ref a_t, .int p1, .int p2, .int p3] : List Value).toArray below meth c H locs 0 0 Q (F0 m 0 ls []) by rw [hH9] at hgoal; exact hgoal
  rw [f_X6_likely] at hf
  refine lv_aload_n hx hb dX6_likely_0 rfl (lv_at hl 0 rfl) ?_
  refine lv_iload_n hx hb dX6_likely_1 rfl (lv_at hl 1 rfl) ?_
  obtain ⟨r2, hc2, hf⟩ := bd_some hf
  refine cV_I X hA hP hD hS hl.1 (c_X6_isPlace l E a_t x_t_signs w_t_pad x_t_places (.ref a_t_page) x_t_begins x_t_court x_t_allowed (.ref a_t_weight) x_t_sights w_t_sight (.ref a_t_count) x_t_opens (.ref a_t_open) w_t_behind w_t_outs w_t_pack w_t_image w_t_isKept p1 r2 hc2) 1 k_738 mw_X6_isPlace hd_X6_isPlace ⟨Nat.le_of_ble_eq_true rfl, Nat.le_of_ble_eq_true rfl⟩ [0] [1, 2, 3, 4] [4, 0, 1, 2, 3] rfl rfl (wr := [1, 2, 3, 4].filterMap (fun i => (wd_X6_likely E a_t a_t_page a_t_count a_t_open a_t_weight x_t_signs w_t_pad x_t_places x_t_begins x_t_court x_t_allowed x_t_sights w_t_sight x_t_opens w_t_behind w_t_outs w_t_pack w_t_image w_t_isKept x_t_page x_t_count x_t_open x_t_weight)[i]?)) rfl rfl rfl 6 0 rfl rfl rfl rfl rfl (Nat.le_of_ble_eq_true rfl) rfl (ws' := (wd_X6_likely E a_t a_t_page a_t_count a_t_open a_t_weight x_t_signs w_t_pad x_t_places x_t_begins x_t_court x_t_allowed x_t_sights w_t_sight x_t_opens w_t_behind w_t_outs w_t_pack w_t_image w_t_isKept x_t_page x_t_count x_t_open x_t_weight)) rfl ⟨Nat.le_of_ble_eq_true rfl, Nat.le_of_ble_eq_true rfl⟩ dX6_likely_2 (fun H locs hP hD hS => ?_)
  refine lv_if_eq (tgt := 16) hx hb dX6_likely_5 (by decide) (fun c_5 => ?_) (fun c_5 => ?_)
  · have hf := if_t c_5 hf
    refine lv_ldc2 (v := (-1000000000000000001 : Int64)) hx hb X.2.2.2.1 (X.2.2.2.2.1 _ k_833) dX6_likely_16 ?_
    exact fin' _ _ _ _ hf 19 ls H locs dX6_likely_19 hP hD hS
  · have hf := if_f c_5 hf
    refine lv_aload_n hx hb dX6_likely_8 rfl (lv_at hl 0 rfl) ?_
    refine lv_iload_n hx hb dX6_likely_9 rfl (lv_at hl 2 rfl) ?_
    obtain ⟨r10, hc10, hf⟩ := bd_some hf
    refine cV_I X hA hP hD hS hl.1 (c_X6_isPlace l E a_t x_t_signs w_t_pad x_t_places (.ref a_t_page) x_t_begins x_t_court x_t_allowed (.ref a_t_weight) x_t_sights w_t_sight (.ref a_t_count) x_t_opens (.ref a_t_open) w_t_behind w_t_outs w_t_pack w_t_image w_t_isKept p2 r10 hc10) 1 k_738 mw_X6_isPlace hd_X6_isPlace ⟨Nat.le_of_ble_eq_true rfl, Nat.le_of_ble_eq_true rfl⟩ [0] [1, 2, 3, 4] [4, 0, 1, 2, 3] rfl rfl (wr := [1, 2, 3, 4].filterMap (fun i => (wd_X6_likely E a_t a_t_page a_t_count a_t_open a_t_weight x_t_signs w_t_pad x_t_places x_t_begins x_t_court x_t_allowed x_t_sights w_t_sight x_t_opens w_t_behind w_t_outs w_t_pack w_t_image w_t_isKept x_t_page x_t_count x_t_open x_t_weight)[i]?)) rfl rfl rfl 6 0 rfl rfl rfl rfl rfl (Nat.le_of_ble_eq_true rfl) rfl (ws' := (wd_X6_likely E a_t a_t_page a_t_count a_t_open a_t_weight x_t_signs w_t_pad x_t_places x_t_begins x_t_court x_t_allowed x_t_sights w_t_sight x_t_opens w_t_behind w_t_outs w_t_pack w_t_image w_t_isKept x_t_page x_t_count x_t_open x_t_weight)) rfl ⟨Nat.le_of_ble_eq_true rfl, Nat.le_of_ble_eq_true rfl⟩ dX6_likely_10 (fun H locs hP hD hS => ?_)
    refine lv_if_ne (tgt := 20) hx hb dX6_likely_13 (by decide) (fun c_13 => ?_) (fun c_13 => ?_)
    · have hf := if_f c_13 hf
      refine lv_iload_n hx hb dX6_likely_20 rfl (lv_at hl 3 rfl) ?_
      refine lv_iconst (v := (0 : Int32)) hx hb dX6_likely_21 (by decide) ?_
      refine lv_iconst (v := (1 : Int32)) hx hb dX6_likely_22 (by decide) ?_
      obtain ⟨r23, hc23, hf⟩ := bd_some hf
      refine cS_I X hA hP hD hS hl.1 (c_X6_in l E p3 (0 : Int32) (1 : Int32) r23 hc23) 3 k_692 mw_X6_in hd_X6_in ⟨Nat.le_of_ble_eq_true rfl, Nat.le_of_ble_eq_true rfl⟩ [] [0, 1, 2, 3, 4] [0, 1, 2, 3, 4] rfl rfl (wr := [0, 1, 2, 3, 4].filterMap (fun i => (wd_X6_likely E a_t a_t_page a_t_count a_t_open a_t_weight x_t_signs w_t_pad x_t_places x_t_begins x_t_court x_t_allowed x_t_sights w_t_sight x_t_opens w_t_behind w_t_outs w_t_pack w_t_image w_t_isKept x_t_page x_t_count x_t_open x_t_weight)[i]?)) rfl rfl rfl rfl rfl (Nat.le_of_ble_eq_true rfl) rfl (ws' := (wd_X6_likely E a_t a_t_page a_t_count a_t_open a_t_weight x_t_signs w_t_pad x_t_places x_t_begins x_t_court x_t_allowed x_t_sights w_t_sight x_t_opens w_t_behind w_t_outs w_t_pack w_t_image w_t_isKept x_t_page x_t_count x_t_open x_t_weight)) rfl ⟨Nat.le_of_ble_eq_true rfl, Nat.le_of_ble_eq_true rfl⟩ dX6_likely_23 (fun H locs hP hD hS => ?_)
      refine lv_if_ne (tgt := 33) hx hb dX6_likely_26 (by decide) (fun c_26 => ?_) (fun c_26 => ?_)
      · have hf := if_f c_26 hf
        refine lv_aload_n hx hb dX6_likely_33 rfl (lv_at hl 0 rfl) ?_
        refine lv_bipush (v := (42 : Int32)) hx hb dX6_likely_34 (by decide) ?_
        obtain ⟨r36, hc36, hf⟩ := bd_some hf
        refine cV_I X hA hP hD hS hl.1 (c_X6_many l E a_t a_t_page x_t_signs w_t_pad x_t_places x_t_begins x_t_court x_t_allowed (.ref a_t_weight) x_t_sights w_t_sight (.ref a_t_count) x_t_opens (.ref a_t_open) w_t_behind w_t_outs w_t_pack w_t_image w_t_isKept x_t_page (42 : Int32) r36 hc36) 1 k_753 mw_X6_many hd_X6_many ⟨Nat.le_of_ble_eq_true rfl, Nat.le_of_ble_eq_true rfl⟩ [0, 1] [2, 3, 4] [3, 4, 0, 1, 2] rfl rfl (wr := [2, 3, 4].filterMap (fun i => (wd_X6_likely E a_t a_t_page a_t_count a_t_open a_t_weight x_t_signs w_t_pad x_t_places x_t_begins x_t_court x_t_allowed x_t_sights w_t_sight x_t_opens w_t_behind w_t_outs w_t_pack w_t_image w_t_isKept x_t_page x_t_count x_t_open x_t_weight)[i]?)) rfl rfl rfl 6 0 rfl rfl rfl rfl rfl (Nat.le_of_ble_eq_true rfl) rfl (ws' := (wd_X6_likely E a_t a_t_page a_t_count a_t_open a_t_weight x_t_signs w_t_pad x_t_places x_t_begins x_t_court x_t_allowed x_t_sights w_t_sight x_t_opens w_t_behind w_t_outs w_t_pack w_t_image w_t_isKept x_t_page x_t_count x_t_open x_t_weight)) rfl ⟨Nat.le_of_ble_eq_true rfl, Nat.le_of_ble_eq_true rfl⟩ dX6_likely_36 (fun H locs hP hD hS => ?_)
        refine lv_if_le (tgt := 46) hx hb dX6_likely_39 (by decide) (fun c_39 => ?_) (fun c_39 => ?_)
        · have hf := if_t c_39 hf
          refine lv_aload_n hx hb dX6_likely_46 rfl (lv_at hl 0 rfl) ?_
          refine lv_aload_n hx hb dX6_likely_47 rfl (lv_at hl 0 rfl) ?_
          refine gf_X6_23 X hP 0 rfl rfl dX6_likely_48 ?_
          obtain ⟨r51, hc51, hf⟩ := bd_some hf
          refine cV_V X hA hP hD hS hl.1 (c_X6_lay l E a_t a_t_count a_t_page a_t_open x_t_signs w_t_pad x_t_places x_t_begins x_t_court x_t_allowed (.ref a_t_weight) x_t_sights w_t_sight x_t_opens w_t_behind w_t_outs w_t_pack w_t_image w_t_isKept x_t_count x_t_page x_t_open x_t_court r51 hc51) 1 k_757 mw_X6_lay hd_X6_lay ⟨Nat.le_of_ble_eq_true rfl, Nat.le_of_ble_eq_true rfl⟩ [0, 2, 1, 3] [4] [1, 3, 2, 4, 0] rfl rfl (wr := [4].filterMap (fun i => (wd_X6_likely E a_t a_t_page a_t_count a_t_open a_t_weight x_t_signs w_t_pad x_t_places x_t_begins x_t_court x_t_allowed x_t_sights w_t_sight x_t_opens w_t_behind w_t_outs w_t_pack w_t_image w_t_isKept x_t_page x_t_count x_t_open x_t_weight)[i]?)) rfl rfl rfl 6 0 rfl rfl rfl rfl rfl (Nat.le_of_ble_eq_true rfl) rfl (ws' := (wd_X6_likely E a_t a_t_page a_t_count a_t_open a_t_weight x_t_signs w_t_pad x_t_places x_t_begins x_t_court x_t_allowed x_t_sights w_t_sight r51.1 w_t_behind w_t_outs w_t_pack w_t_image w_t_isKept x_t_page r51.2.1 r51.2.2 x_t_weight)) rfl ⟨Nat.le_of_ble_eq_true rfl, Nat.le_of_ble_eq_true rfl⟩ dX6_likely_51 (fun H locs hP hD hS => ?_)
          refine lv_lconst (v := (0 : Int64)) hx hb dX6_likely_54 (by decide) ?_
          refine lv_lstore (lv' := [(4, .long (0 : Int64)), (0, .ref a_t), (1, .int p1), (2, .int p2), (3, .int p3)]) hx hb dX6_likely_55 hl (by decide) rfl (fun ls hl => ?_)
          refine lv_iconst (v := (0 : Int32)) hx hb dX6_likely_57 (by decide) ?_
          refine lv_istore (lv' := [(6, .int (0 : Int32)), (4, .long (0 : Int64)), (0, .ref a_t), (1, .int p1), (2, .int p2), (3, .int p3)]) hx hb dX6_likely_58 hl (by decide) rfl (fun ls hl => ?_)
          exact L60 FU (0 : Int64) (0 : Int32) r51.1 r51.2.1 r51.2.2 hf H locs ls hP hD hS (lv_sub hl [2, 3, 4, 5, 1, 0] rfl)
        · have hf := if_f c_39 hf
          refine lv_ldc2 (v := (-1000000000000000003 : Int64)) hx hb X.2.2.2.1 (X.2.2.2.2.1 _ k_835) dX6_likely_42 ?_
          exact fin' _ _ _ _ hf 45 ls H locs dX6_likely_45 hP hD hS
      · have hf := if_t c_26 hf
        refine lv_ldc2 (v := (-1000000000000000002 : Int64)) hx hb X.2.2.2.1 (X.2.2.2.2.1 _ k_834) dX6_likely_29 ?_
        exact fin' _ _ _ _ hf 32 ls H locs dX6_likely_32 hP hD hS
    · have hf := if_t c_13 hf
      refine lv_ldc2 (v := (-1000000000000000001 : Int64)) hx hb X.2.2.2.1 (X.2.2.2.2.1 _ k_833) dX6_likely_16 ?_
      exact fin' _ _ _ _ hf 19 ls H locs dX6_likely_19 hP hD hS
abbrev wd_X6_all (E : EN) (a_t : Nat) (a_t_page : Nat) (a_t_count : Nat) (a_t_open : Nat) (a_t_weight : Nat) (x_t_signs : Int32) (w_t_pad : Value) (x_t_places : Int32) (x_t_begins : Int32) (x_t_court : Int32) (x_t_allowed : Int32) (x_t_sights : Int32) (w_t_sight : Value) (x_t_opens : Int32) (w_t_behind : Value) (w_t_outs : Value) (w_t_pack : Value) (w_t_image : Value) (w_t_isKept : Value) (x_t_page : Nat → Int32) (x_t_count : Nat → Int32) (x_t_open : Nat → Int32) (x_t_weight : Nat → Int32) : va_W := [(a_t, e_O 6 [.int x_t_signs, w_t_pad, .int x_t_places, .ref a_t_page, .int x_t_begins, .int x_t_court, .int x_t_allowed, .ref a_t_weight, .int x_t_sights, w_t_sight, .ref a_t_count, .int x_t_opens, .ref a_t_open, w_t_behind, w_t_outs, w_t_pack, w_t_image, w_t_isKept]), (a_t_page, e_I E 40 x_t_page), (a_t_count, e_I E 40 x_t_count), (a_t_open, e_I E 5 x_t_open), (a_t_weight, e_I E 11 x_t_weight)]
def f_X6_all_39 (p1 : Int32) (x_t_places : Int32) (x_t_begins : Int32) (x_t_weight : Nat → Int32)  : Nat → Int64 → Int32 → Int32 → (Nat → Int32) → (Nat → Int32) → Option (Int64 × Int32 × (Nat → Int32) × (Nat → Int32))
  | 0, _, _, _, _, _ => none
  | n_ + 1, v2, v4, m_t_opens, m_t_count, m_t_open =>
    Option.bind (f_X6_codes m_t_opens) (fun r42 =>
    if r42 ≤ v4 then
      Option.bind (f_X6_wholeWeight m_t_opens x_t_weight) (fun r87 =>
      Option.bind (f_X6_term v2 r87 p1) (fun r91 =>
      some (r91, m_t_opens, m_t_count, m_t_open)))
    else
      Option.bind (f_X6_writeIn v4 m_t_opens m_t_count m_t_open x_t_weight) (fun r51 =>
      if r51.1 ≤ 0 then
        f_X6_all_39 p1 x_t_places x_t_begins x_t_weight n_ (v2 + (0 : Int64)) (v4 + (1 : Int32)) m_t_opens r51.2 m_t_open
      else
        Option.bind (f_X6_outsOfAll x_t_places x_t_begins r51.2) (fun r63 =>
        if r63 = (1 : Int32) then
          f_X6_all_39 p1 x_t_places x_t_begins x_t_weight n_ (v2 + r51.1.toInt64) (v4 + (1 : Int32)) m_t_opens r51.2 m_t_open
        else
          f_X6_all_39 p1 x_t_places x_t_begins x_t_weight n_ (v2 + (0 : Int64)) (v4 + (1 : Int32)) m_t_opens r51.2 m_t_open)))
def f_X6_all (p1 : Int32) (x_t_places : Int32) (x_t_begins : Int32) (x_t_court : Int32) (x_t_opens : Int32) (x_t_page : Nat → Int32) (x_t_count : Nat → Int32) (x_t_open : Nat → Int32) (x_t_weight : Nat → Int32) : Option (Int64 × Int32 × (Nat → Int32) × (Nat → Int32)) :=
  Option.bind (f_X6_in p1 (0 : Int32) (1 : Int32)) (fun r3 =>
  if r3 = 0 then
    some ((-1000000000000000002 : Int64), x_t_opens, x_t_count, x_t_open)
  else
    Option.bind (f_X6_many (42 : Int32) x_t_places x_t_page) (fun r16 =>
    if r16 ≤ 0 then
      Option.bind (f_X6_lay x_t_court x_t_places x_t_count x_t_page x_t_open) (fun r31 =>
      f_X6_all_39 p1 x_t_places x_t_begins x_t_weight FU (0 : Int64) (0 : Int32) r31.1 r31.2.1 r31.2.2)
    else
      some ((-1000000000000000003 : Int64), x_t_opens, x_t_count, x_t_open)))
set_option maxHeartbeats 4000000 in
set_option maxRecDepth 100000 in
theorem c_X6_all (l : Launch) (E : EN) (a_t a_t_page a_t_count a_t_open a_t_weight : Nat) (x_t_signs : Int32) (w_t_pad : Value) (x_t_places : Int32) (x_t_begins : Int32) (x_t_court : Int32) (x_t_allowed : Int32) (x_t_sights : Int32) (w_t_sight : Value) (x_t_opens : Int32) (w_t_behind : Value) (w_t_outs : Value) (w_t_pack : Value) (w_t_image : Value) (w_t_isKept : Value) (x_t_page : Nat → Int32) (x_t_count : Nat → Int32) (x_t_open : Nat → Int32) (x_t_weight : Nat → Int32) (p1 : Int32) (res : Int64 × Int32 × (Nat → Int32) × (Nat → Int32)) (hf : f_X6_all p1 x_t_places x_t_begins x_t_court x_t_opens x_t_page x_t_count x_t_open x_t_weight = some res) : CtL l yX6_all cX6_all 6 3 65 E [.ref a_t, .int p1] (wd_X6_all E a_t a_t_page a_t_count a_t_open a_t_weight x_t_signs w_t_pad x_t_places x_t_begins x_t_court x_t_allowed x_t_sights w_t_sight x_t_opens w_t_behind w_t_outs w_t_pack w_t_image w_t_isKept x_t_page x_t_count x_t_open x_t_weight) (wd_X6_all E a_t a_t_page a_t_count a_t_open a_t_weight x_t_signs w_t_pad x_t_places x_t_begins x_t_court x_t_allowed x_t_sights w_t_sight res.2.1 w_t_behind w_t_outs w_t_pack w_t_image w_t_isKept x_t_page res.2.2.1 res.2.2.2 x_t_weight) res.1 := by
  refine CtL.of RX6 (by decide) rfl (Nat.le_of_ble_eq_true rfl) ?_
  intro p e s m below meth c A Q ls X hA hP hD hl fin
  have hx := X.1
  have hb := X.2.1
  have hl : lv_has ls 6 [(0, .ref a_t), (1, .int p1)] := hl
  have fin' : ∀ (fr0 : Int64) (fr1 : Int32) (fr2 : (Nat → Int32)) (fr3 : (Nat → Int32)), some (fr0, fr1, fr2, fr3) = some res → ∀ (pc : Nat) (ls : Array Slot) (H : Heap) (locs : List Loc), decode cX6_all pc = .ok (.lreturn, 1) → va_P E.1 vwCl (wd_X6_all E a_t a_t_page a_t_count a_t_open a_t_weight x_t_signs w_t_pad x_t_places x_t_begins x_t_court x_t_allowed x_t_sights w_t_sight fr1 w_t_behind w_t_outs w_t_pack w_t_image w_t_isKept x_t_page fr2 fr3 x_t_weight) H → va_D A (wd_X6_all E a_t a_t_page a_t_count a_t_open a_t_weight x_t_signs w_t_pad x_t_places x_t_begins x_t_court x_t_allowed x_t_sights w_t_sight fr1 w_t_behind w_t_outs w_t_pack w_t_image w_t_isKept x_t_page fr2 fr3 x_t_weight) → va_S A s.heap H locs → W p l e (rmm 3 65) s m ([.ref a_t, .int p1] : List Value).toArray below meth c H locs 0 0 Q (F0 m pc ls [.long fr0]) := by
    intro fr0 fr1 fr2 fr3 he
    cases he
    exact fin
  have L39 : ∀ (n39 : Nat) (v2 : Int64) (v4 : Int32) (m_t_opens : Int32) (m_t_count : Nat → Int32) (m_t_open : Nat → Int32), f_X6_all_39 p1 x_t_places x_t_begins x_t_weight n39 v2 v4 m_t_opens m_t_count m_t_open = some res → ∀ (H : Heap) (locs : List Loc) (ls : Array Slot), va_P E.1 vwCl (wd_X6_all E a_t a_t_page a_t_count a_t_open a_t_weight x_t_signs w_t_pad x_t_places x_t_begins x_t_court x_t_allowed x_t_sights w_t_sight m_t_opens w_t_behind w_t_outs w_t_pack w_t_image w_t_isKept x_t_page m_t_count m_t_open x_t_weight) H → va_D A (wd_X6_all E a_t a_t_page a_t_count a_t_open a_t_weight x_t_signs w_t_pad x_t_places x_t_begins x_t_court x_t_allowed x_t_sights w_t_sight m_t_opens w_t_behind w_t_outs w_t_pack w_t_image w_t_isKept x_t_page m_t_count m_t_open x_t_weight) → va_S A s.heap H locs → lv_has ls 6 [(0, .ref a_t), (1, .int p1), (2, .long v2), (4, .int v4)] → W p l e (rmm 3 65) s m ([.ref a_t, .int p1] : List Value).toArray below meth c H locs 0 0 Q (F0 m 39 ls []) := by
    intro n39
    induction n39 with
    | zero => intro v2 v4 m_t_opens m_t_count m_t_open hf; rw [f_X6_all_39] at hf; cases hf
    | succ n39 ih39 =>
      intro v2 v4 m_t_opens m_t_count m_t_open hf H locs ls hP hD hS hl
      rw [f_X6_all_39] at hf
      refine lv_iload hx hb dX6_all_39 (lv_at hl 3 rfl) ?_
      refine lv_aload_n hx hb dX6_all_41 rfl (lv_at hl 0 rfl) ?_
      obtain ⟨r42, hc42, hf⟩ := bd_some hf
      refine cV_I X hA hP hD hS hl.1 (c_X6_codes l E a_t x_t_signs w_t_pad x_t_places (.ref a_t_page) x_t_begins x_t_court x_t_allowed (.ref a_t_weight) x_t_sights w_t_sight (.ref a_t_count) m_t_opens (.ref a_t_open) w_t_behind w_t_outs w_t_pack w_t_image w_t_isKept r42 hc42) 0 k_836 mw_X6_codes hd_X6_codes ⟨Nat.le_of_ble_eq_true rfl, Nat.le_of_ble_eq_true rfl⟩ [0] [1, 2, 3, 4] [4, 0, 1, 2, 3] rfl rfl (wr := [1, 2, 3, 4].filterMap (fun i => (wd_X6_all E a_t a_t_page a_t_count a_t_open a_t_weight x_t_signs w_t_pad x_t_places x_t_begins x_t_court x_t_allowed x_t_sights w_t_sight m_t_opens w_t_behind w_t_outs w_t_pack w_t_image w_t_isKept x_t_page m_t_count m_t_open x_t_weight)[i]?)) rfl rfl rfl 6 0 rfl rfl rfl rfl rfl (Nat.le_of_ble_eq_true rfl) rfl (ws' := (wd_X6_all E a_t a_t_page a_t_count a_t_open a_t_weight x_t_signs w_t_pad x_t_places x_t_begins x_t_court x_t_allowed x_t_sights w_t_sight m_t_opens w_t_behind w_t_outs w_t_pack w_t_image w_t_isKept x_t_page m_t_count m_t_open x_t_weight)) rfl ⟨Nat.le_of_ble_eq_true rfl, Nat.le_of_ble_eq_true rfl⟩ dX6_all_42 (fun H locs hP hD hS => ?_)
      refine lv_icmp_ge (tgt := 85) hx hb dX6_all_45 (by decide) (fun c_45 => ?_) (fun c_45 => ?_)
      · have hf := if_t c_45 hf
        refine lv_lload_n hx hb dX6_all_85 rfl (lv_at hl 2 rfl) ?_
        refine lv_aload_n hx hb dX6_all_86 rfl (lv_at hl 0 rfl) ?_
        obtain ⟨r87, hc87, hf⟩ := bd_some hf
        refine cV_L X hA hP hD hS hl.1 (c_X6_wholeWeight l E a_t a_t_weight x_t_signs w_t_pad x_t_places (.ref a_t_page) x_t_begins x_t_court x_t_allowed x_t_sights w_t_sight (.ref a_t_count) m_t_opens (.ref a_t_open) w_t_behind w_t_outs w_t_pack w_t_image w_t_isKept x_t_weight r87 hc87) 0 k_844 mw_X6_wholeWeight hd_X6_wholeWeight ⟨Nat.le_of_ble_eq_true rfl, Nat.le_of_ble_eq_true rfl⟩ [0, 4] [1, 2, 3] [3, 0, 1, 2, 4] rfl rfl (wr := [1, 2, 3].filterMap (fun i => (wd_X6_all E a_t a_t_page a_t_count a_t_open a_t_weight x_t_signs w_t_pad x_t_places x_t_begins x_t_court x_t_allowed x_t_sights w_t_sight m_t_opens w_t_behind w_t_outs w_t_pack w_t_image w_t_isKept x_t_page m_t_count m_t_open x_t_weight)[i]?)) rfl rfl rfl 6 0 rfl rfl rfl rfl rfl (Nat.le_of_ble_eq_true rfl) rfl (ws' := (wd_X6_all E a_t a_t_page a_t_count a_t_open a_t_weight x_t_signs w_t_pad x_t_places x_t_begins x_t_court x_t_allowed x_t_sights w_t_sight m_t_opens w_t_behind w_t_outs w_t_pack w_t_image w_t_isKept x_t_page m_t_count m_t_open x_t_weight)) rfl ⟨Nat.le_of_ble_eq_true rfl, Nat.le_of_ble_eq_true rfl⟩ dX6_all_87 (fun H locs hP hD hS => ?_)
        refine lv_iload_n hx hb dX6_all_90 rfl (lv_at hl 1 rfl) ?_
        obtain ⟨r91, hc91, hf⟩ := bd_some hf
        refine cS_L X hA hP hD hS hl.1 (c_X6_term l E v2 r87 p1 r91 hc91) 3 k_848 mw_X6_term hd_X6_term ⟨Nat.le_of_ble_eq_true rfl, Nat.le_of_ble_eq_true rfl⟩ [] [0, 1, 2, 3, 4] [0, 1, 2, 3, 4] rfl rfl (wr := [0, 1, 2, 3, 4].filterMap (fun i => (wd_X6_all E a_t a_t_page a_t_count a_t_open a_t_weight x_t_signs w_t_pad x_t_places x_t_begins x_t_court x_t_allowed x_t_sights w_t_sight m_t_opens w_t_behind w_t_outs w_t_pack w_t_image w_t_isKept x_t_page m_t_count m_t_open x_t_weight)[i]?)) rfl rfl rfl rfl rfl (Nat.le_of_ble_eq_true rfl) rfl (ws' := (wd_X6_all E a_t a_t_page a_t_count a_t_open a_t_weight x_t_signs w_t_pad x_t_places x_t_begins x_t_court x_t_allowed x_t_sights w_t_sight m_t_opens w_t_behind w_t_outs w_t_pack w_t_image w_t_isKept x_t_page m_t_count m_t_open x_t_weight)) rfl ⟨Nat.le_of_ble_eq_true rfl, Nat.le_of_ble_eq_true rfl⟩ dX6_all_91 (fun H locs hP hD hS => ?_)
        exact fin' _ _ _ _ hf 94 ls H locs dX6_all_94 hP hD hS
      · have hf := if_f c_45 hf
        refine lv_aload_n hx hb dX6_all_48 rfl (lv_at hl 0 rfl) ?_
        refine lv_iload hx hb dX6_all_49 (lv_at hl 3 rfl) ?_
        obtain ⟨r51, hc51, hf⟩ := bd_some hf
        refine cV_I X hA hP hD hS hl.1 (c_X6_writeIn l E a_t a_t_count a_t_open a_t_weight x_t_signs w_t_pad x_t_places (.ref a_t_page) x_t_begins x_t_court x_t_allowed x_t_sights w_t_sight m_t_opens w_t_behind w_t_outs w_t_pack w_t_image w_t_isKept m_t_count m_t_open x_t_weight v4 r51 hc51) 1 k_840 mw_X6_writeIn hd_X6_writeIn ⟨Nat.le_of_ble_eq_true rfl, Nat.le_of_ble_eq_true rfl⟩ [0, 2, 3, 4] [1] [1, 0, 2, 3, 4] rfl rfl (wr := [1].filterMap (fun i => (wd_X6_all E a_t a_t_page a_t_count a_t_open a_t_weight x_t_signs w_t_pad x_t_places x_t_begins x_t_court x_t_allowed x_t_sights w_t_sight m_t_opens w_t_behind w_t_outs w_t_pack w_t_image w_t_isKept x_t_page m_t_count m_t_open x_t_weight)[i]?)) rfl rfl rfl 6 0 rfl rfl rfl rfl rfl (Nat.le_of_ble_eq_true rfl) rfl (ws' := (wd_X6_all E a_t a_t_page a_t_count a_t_open a_t_weight x_t_signs w_t_pad x_t_places x_t_begins x_t_court x_t_allowed x_t_sights w_t_sight m_t_opens w_t_behind w_t_outs w_t_pack w_t_image w_t_isKept x_t_page r51.2 m_t_open x_t_weight)) rfl ⟨Nat.le_of_ble_eq_true rfl, Nat.le_of_ble_eq_true rfl⟩ dX6_all_51 (fun H locs hP hD hS => ?_)
        refine lv_istore (lv' := [(5, .int r51.1), (0, .ref a_t), (1, .int p1), (2, .long v2), (4, .int v4)]) hx hb dX6_all_54 hl (by decide) rfl (fun ls hl => ?_)
        refine lv_lload_n hx hb dX6_all_56 rfl (lv_at hl 3 rfl) ?_
        refine lv_iload hx hb dX6_all_57 (lv_at hl 0 rfl) ?_
        refine lv_if_le (tgt := 76) hx hb dX6_all_59 (by decide) (fun c_59 => ?_) (fun c_59 => ?_)
        · have hf := if_t c_59 hf
          refine lv_lconst (v := (0 : Int64)) hx hb dX6_all_76 (by decide) ?_
          refine lv_ladd hx hb dX6_all_77 ?_
          refine lv_lstore_n (lv' := [(2, .long (v2 + (0 : Int64))), (5, .int r51.1), (0, .ref a_t), (1, .int p1), (4, .int v4)]) hx hb dX6_all_78 rfl hl (by decide) rfl (fun ls hl => ?_)
          refine lv_iinc (v := (v4 + (1 : Int32))) (lv' := [(4, .int (v4 + (1 : Int32))), (2, .long (v2 + (0 : Int64))), (5, .int r51.1), (0, .ref a_t), (1, .int p1)]) hx hb dX6_all_79 hl (k := 4) rfl rfl (by decide) rfl (fun ls hl => ?_)
          refine lv_goto (tgt := 39) hx hb dX6_all_82 (by decide) ?_
          exact ih39 (v2 + (0 : Int64)) (v4 + (1 : Int32)) m_t_opens r51.2 m_t_open hf H locs ls hP hD hS (lv_sub hl [3, 4, 1, 0] rfl)
        · have hf := if_f c_59 hf
          refine lv_aload_n hx hb dX6_all_62 rfl (lv_at hl 1 rfl) ?_
          obtain ⟨r63, hc63, hf⟩ := bd_some hf
          refine cV_I X hA hP hD hS hl.1 (c_X6_outsOfAll l E a_t a_t_count x_t_signs w_t_pad x_t_places (.ref a_t_page) x_t_begins x_t_court x_t_allowed (.ref a_t_weight) x_t_sights w_t_sight m_t_opens (.ref a_t_open) w_t_behind w_t_outs w_t_pack w_t_image w_t_isKept r51.2 r63 hc63) 0 k_769 mw_X6_outsOfAll hd_X6_outsOfAll ⟨Nat.le_of_ble_eq_true rfl, Nat.le_of_ble_eq_true rfl⟩ [0, 2] [1, 3, 4] [3, 0, 4, 1, 2] rfl rfl (wr := [1, 3, 4].filterMap (fun i => (wd_X6_all E a_t a_t_page a_t_count a_t_open a_t_weight x_t_signs w_t_pad x_t_places x_t_begins x_t_court x_t_allowed x_t_sights w_t_sight m_t_opens w_t_behind w_t_outs w_t_pack w_t_image w_t_isKept x_t_page r51.2 m_t_open x_t_weight)[i]?)) rfl rfl rfl 6 0 rfl rfl rfl rfl rfl (Nat.le_of_ble_eq_true rfl) rfl (ws' := (wd_X6_all E a_t a_t_page a_t_count a_t_open a_t_weight x_t_signs w_t_pad x_t_places x_t_begins x_t_court x_t_allowed x_t_sights w_t_sight m_t_opens w_t_behind w_t_outs w_t_pack w_t_image w_t_isKept x_t_page r51.2 m_t_open x_t_weight)) rfl ⟨Nat.le_of_ble_eq_true rfl, Nat.le_of_ble_eq_true rfl⟩ dX6_all_63 (fun H locs hP hD hS => ?_)
          refine lv_iconst (v := (1 : Int32)) hx hb dX6_all_66 (by decide) ?_
          refine lv_icmp_ne (tgt := 76) hx hb dX6_all_67 (by decide) (fun c_67 => ?_) (fun c_67 => ?_)
          · have hf := if_f c_67 hf
            refine lv_lconst (v := (0 : Int64)) hx hb dX6_all_76 (by decide) ?_
            refine lv_ladd hx hb dX6_all_77 ?_
            refine lv_lstore_n (lv' := [(2, .long (v2 + (0 : Int64))), (5, .int r51.1), (0, .ref a_t), (1, .int p1), (4, .int v4)]) hx hb dX6_all_78 rfl hl (by decide) rfl (fun ls hl => ?_)
            refine lv_iinc (v := (v4 + (1 : Int32))) (lv' := [(4, .int (v4 + (1 : Int32))), (2, .long (v2 + (0 : Int64))), (5, .int r51.1), (0, .ref a_t), (1, .int p1)]) hx hb dX6_all_79 hl (k := 4) rfl rfl (by decide) rfl (fun ls hl => ?_)
            refine lv_goto (tgt := 39) hx hb dX6_all_82 (by decide) ?_
            exact ih39 (v2 + (0 : Int64)) (v4 + (1 : Int32)) m_t_opens r51.2 m_t_open hf H locs ls hP hD hS (lv_sub hl [3, 4, 1, 0] rfl)
          · have hf := if_t c_67 hf
            refine lv_iload hx hb dX6_all_70 (lv_at hl 0 rfl) ?_
            refine lv_i2l (v := r51.1.toInt64) hx hb dX6_all_72 rfl ?_
            refine lv_goto (tgt := 77) hx hb dX6_all_73 (by decide) ?_
            refine lv_ladd hx hb dX6_all_77 ?_
            refine lv_lstore_n (lv' := [(2, .long (v2 + r51.1.toInt64)), (5, .int r51.1), (0, .ref a_t), (1, .int p1), (4, .int v4)]) hx hb dX6_all_78 rfl hl (by decide) rfl (fun ls hl => ?_)
            refine lv_iinc (v := (v4 + (1 : Int32))) (lv' := [(4, .int (v4 + (1 : Int32))), (2, .long (v2 + r51.1.toInt64)), (5, .int r51.1), (0, .ref a_t), (1, .int p1)]) hx hb dX6_all_79 hl (k := 4) rfl rfl (by decide) rfl (fun ls hl => ?_)
            refine lv_goto (tgt := 39) hx hb dX6_all_82 (by decide) ?_
            exact ih39 (v2 + r51.1.toInt64) (v4 + (1 : Int32)) m_t_opens r51.2 m_t_open hf H locs ls hP hD hS (lv_sub hl [3, 4, 1, 0] rfl)
  have hS : va_S A s.heap s.heap [] := va_S.rf
  obtain ⟨H, hH9⟩ : ∃ z, z = s.heap := ⟨_, rfl⟩
  obtain ⟨locs, hL9⟩ : ∃ z : List Loc, z = [] := ⟨_, rfl⟩
  rw [← hL9]
  rw [← hL9] at hS
  have hP : va_P E.1 vwCl (wd_X6_all E a_t a_t_page a_t_count a_t_open a_t_weight x_t_signs w_t_pad x_t_places x_t_begins x_t_court x_t_allowed x_t_sights w_t_sight x_t_opens w_t_behind w_t_outs w_t_pack w_t_image w_t_isKept x_t_page x_t_count x_t_open x_t_weight) H := by rw [hH9]; exact hP
  have hS : va_S A s.heap H locs := by rw [hH9]; exact hS
  suffices hgoal : W p l e (rmm 3 65) s m ([.ref a_t, .int p1] : List Value).toArray below meth c H locs 0 0 Q (F0 m 0 ls []) by rw [hH9] at hgoal; exact hgoal
  rw [f_X6_all] at hf
  refine lv_iload_n hx hb dX6_all_0 rfl (lv_at hl 1 rfl) ?_
  refine lv_iconst (v := (0 : Int32)) hx hb dX6_all_1 (by decide) ?_
  refine lv_iconst (v := (1 : Int32)) hx hb dX6_all_2 (by decide) ?_
  obtain ⟨r3, hc3, hf⟩ := bd_some hf
  refine cS_I X hA hP hD hS hl.1 (c_X6_in l E p1 (0 : Int32) (1 : Int32) r3 hc3) 3 k_692 mw_X6_in hd_X6_in ⟨Nat.le_of_ble_eq_true rfl, Nat.le_of_ble_eq_true rfl⟩ [] [0, 1, 2, 3, 4] [0, 1, 2, 3, 4] rfl rfl (wr := [0, 1, 2, 3, 4].filterMap (fun i => (wd_X6_all E a_t a_t_page a_t_count a_t_open a_t_weight x_t_signs w_t_pad x_t_places x_t_begins x_t_court x_t_allowed x_t_sights w_t_sight x_t_opens w_t_behind w_t_outs w_t_pack w_t_image w_t_isKept x_t_page x_t_count x_t_open x_t_weight)[i]?)) rfl rfl rfl rfl rfl (Nat.le_of_ble_eq_true rfl) rfl (ws' := (wd_X6_all E a_t a_t_page a_t_count a_t_open a_t_weight x_t_signs w_t_pad x_t_places x_t_begins x_t_court x_t_allowed x_t_sights w_t_sight x_t_opens w_t_behind w_t_outs w_t_pack w_t_image w_t_isKept x_t_page x_t_count x_t_open x_t_weight)) rfl ⟨Nat.le_of_ble_eq_true rfl, Nat.le_of_ble_eq_true rfl⟩ dX6_all_3 (fun H locs hP hD hS => ?_)
  refine lv_if_ne (tgt := 13) hx hb dX6_all_6 (by decide) (fun c_6 => ?_) (fun c_6 => ?_)
  · have hf := if_f c_6 hf
    refine lv_aload_n hx hb dX6_all_13 rfl (lv_at hl 0 rfl) ?_
    refine lv_bipush (v := (42 : Int32)) hx hb dX6_all_14 (by decide) ?_
    obtain ⟨r16, hc16, hf⟩ := bd_some hf
    refine cV_I X hA hP hD hS hl.1 (c_X6_many l E a_t a_t_page x_t_signs w_t_pad x_t_places x_t_begins x_t_court x_t_allowed (.ref a_t_weight) x_t_sights w_t_sight (.ref a_t_count) x_t_opens (.ref a_t_open) w_t_behind w_t_outs w_t_pack w_t_image w_t_isKept x_t_page (42 : Int32) r16 hc16) 1 k_753 mw_X6_many hd_X6_many ⟨Nat.le_of_ble_eq_true rfl, Nat.le_of_ble_eq_true rfl⟩ [0, 1] [2, 3, 4] [3, 4, 0, 1, 2] rfl rfl (wr := [2, 3, 4].filterMap (fun i => (wd_X6_all E a_t a_t_page a_t_count a_t_open a_t_weight x_t_signs w_t_pad x_t_places x_t_begins x_t_court x_t_allowed x_t_sights w_t_sight x_t_opens w_t_behind w_t_outs w_t_pack w_t_image w_t_isKept x_t_page x_t_count x_t_open x_t_weight)[i]?)) rfl rfl rfl 6 0 rfl rfl rfl rfl rfl (Nat.le_of_ble_eq_true rfl) rfl (ws' := (wd_X6_all E a_t a_t_page a_t_count a_t_open a_t_weight x_t_signs w_t_pad x_t_places x_t_begins x_t_court x_t_allowed x_t_sights w_t_sight x_t_opens w_t_behind w_t_outs w_t_pack w_t_image w_t_isKept x_t_page x_t_count x_t_open x_t_weight)) rfl ⟨Nat.le_of_ble_eq_true rfl, Nat.le_of_ble_eq_true rfl⟩ dX6_all_16 (fun H locs hP hD hS => ?_)
    refine lv_if_le (tgt := 26) hx hb dX6_all_19 (by decide) (fun c_19 => ?_) (fun c_19 => ?_)
    · have hf := if_t c_19 hf
      refine lv_aload_n hx hb dX6_all_26 rfl (lv_at hl 0 rfl) ?_
      refine lv_aload_n hx hb dX6_all_27 rfl (lv_at hl 0 rfl) ?_
      refine gf_X6_23 X hP 0 rfl rfl dX6_all_28 ?_
      obtain ⟨r31, hc31, hf⟩ := bd_some hf
      refine cV_V X hA hP hD hS hl.1 (c_X6_lay l E a_t a_t_count a_t_page a_t_open x_t_signs w_t_pad x_t_places x_t_begins x_t_court x_t_allowed (.ref a_t_weight) x_t_sights w_t_sight x_t_opens w_t_behind w_t_outs w_t_pack w_t_image w_t_isKept x_t_count x_t_page x_t_open x_t_court r31 hc31) 1 k_757 mw_X6_lay hd_X6_lay ⟨Nat.le_of_ble_eq_true rfl, Nat.le_of_ble_eq_true rfl⟩ [0, 2, 1, 3] [4] [1, 3, 2, 4, 0] rfl rfl (wr := [4].filterMap (fun i => (wd_X6_all E a_t a_t_page a_t_count a_t_open a_t_weight x_t_signs w_t_pad x_t_places x_t_begins x_t_court x_t_allowed x_t_sights w_t_sight x_t_opens w_t_behind w_t_outs w_t_pack w_t_image w_t_isKept x_t_page x_t_count x_t_open x_t_weight)[i]?)) rfl rfl rfl 6 0 rfl rfl rfl rfl rfl (Nat.le_of_ble_eq_true rfl) rfl (ws' := (wd_X6_all E a_t a_t_page a_t_count a_t_open a_t_weight x_t_signs w_t_pad x_t_places x_t_begins x_t_court x_t_allowed x_t_sights w_t_sight r31.1 w_t_behind w_t_outs w_t_pack w_t_image w_t_isKept x_t_page r31.2.1 r31.2.2 x_t_weight)) rfl ⟨Nat.le_of_ble_eq_true rfl, Nat.le_of_ble_eq_true rfl⟩ dX6_all_31 (fun H locs hP hD hS => ?_)
      refine lv_lconst (v := (0 : Int64)) hx hb dX6_all_34 (by decide) ?_
      refine lv_lstore_n (lv' := [(2, .long (0 : Int64)), (0, .ref a_t), (1, .int p1)]) hx hb dX6_all_35 rfl hl (by decide) rfl (fun ls hl => ?_)
      refine lv_iconst (v := (0 : Int32)) hx hb dX6_all_36 (by decide) ?_
      refine lv_istore (lv' := [(4, .int (0 : Int32)), (2, .long (0 : Int64)), (0, .ref a_t), (1, .int p1)]) hx hb dX6_all_37 hl (by decide) rfl (fun ls hl => ?_)
      exact L39 FU (0 : Int64) (0 : Int32) r31.1 r31.2.1 r31.2.2 hf H locs ls hP hD hS (lv_sub hl [2, 3, 1, 0] rfl)
    · have hf := if_f c_19 hf
      refine lv_ldc2 (v := (-1000000000000000003 : Int64)) hx hb X.2.2.2.1 (X.2.2.2.2.1 _ k_835) dX6_all_22 ?_
      exact fin' _ _ _ _ hf 25 ls H locs dX6_all_25 hP hD hS
  · have hf := if_t c_6 hf
    refine lv_ldc2 (v := (-1000000000000000002 : Int64)) hx hb X.2.2.2.1 (X.2.2.2.2.1 _ k_834) dX6_all_9 ?_
    exact fin' _ _ _ _ hf 12 ls H locs dX6_all_12 hP hD hS
abbrev wd_X6_isAllowed (E : EN) (a_t : Nat) (a_t_count : Nat) (a_t_open : Nat) (x_t_signs : Int32) (w_t_pad : Value) (x_t_places : Int32) (w_t_page : Value) (x_t_begins : Int32) (x_t_court : Int32) (x_t_allowed : Int32) (w_t_weight : Value) (x_t_sights : Int32) (w_t_sight : Value) (x_t_opens : Int32) (w_t_behind : Value) (w_t_outs : Value) (w_t_pack : Value) (w_t_image : Value) (w_t_isKept : Value) (x_t_count : Nat → Int32) (x_t_open : Nat → Int32) : va_W := [(a_t, e_O 6 [.int x_t_signs, w_t_pad, .int x_t_places, w_t_page, .int x_t_begins, .int x_t_court, .int x_t_allowed, w_t_weight, .int x_t_sights, w_t_sight, .ref a_t_count, .int x_t_opens, .ref a_t_open, w_t_behind, w_t_outs, w_t_pack, w_t_image, w_t_isKept]), (a_t_count, e_I E 40 x_t_count), (a_t_open, e_I E 5 x_t_open)]
def f_X6_isAllowed_4 (x_t_allowed : Int32) (x_t_opens : Int32) (x_t_count : Nat → Int32) (x_t_open : Nat → Int32)  : Nat → Int32 → Int32 → Option (Int32)
  | 0, _, _ => none
  | n_ + 1, v1, v2 =>
    if x_t_opens ≤ v2 then
      ck (isB v1) (
      some v1)
    else
      if v1 = 0 then
        f_X6_isAllowed_4 x_t_allowed x_t_opens x_t_count x_t_open n_ (0 : Int32) (v2 + (1 : Int32))
      else
        ck (inB v2 5) (
        ck (inB (x_t_open (ix v2)) 40) (
        if ((x_t_allowed >>> ((x_t_count (ix (x_t_open (ix v2)))) &&& 31)) &&& (1 : Int32)) = (1 : Int32) then
          f_X6_isAllowed_4 x_t_allowed x_t_opens x_t_count x_t_open n_ (1 : Int32) (v2 + (1 : Int32))
        else
          f_X6_isAllowed_4 x_t_allowed x_t_opens x_t_count x_t_open n_ (0 : Int32) (v2 + (1 : Int32))))
def f_X6_isAllowed (x_t_allowed : Int32) (x_t_opens : Int32) (x_t_count : Nat → Int32) (x_t_open : Nat → Int32) : Option (Int32) :=
  f_X6_isAllowed_4 x_t_allowed x_t_opens x_t_count x_t_open FU (1 : Int32) (0 : Int32)
set_option maxHeartbeats 4000000 in
set_option maxRecDepth 100000 in
theorem c_X6_isAllowed (l : Launch) (E : EN) (a_t a_t_count a_t_open : Nat) (x_t_signs : Int32) (w_t_pad : Value) (x_t_places : Int32) (w_t_page : Value) (x_t_begins : Int32) (x_t_court : Int32) (x_t_allowed : Int32) (w_t_weight : Value) (x_t_sights : Int32) (w_t_sight : Value) (x_t_opens : Int32) (w_t_behind : Value) (w_t_outs : Value) (w_t_pack : Value) (w_t_image : Value) (w_t_isKept : Value) (x_t_count : Nat → Int32) (x_t_open : Nat → Int32)  (res : Int32) (hf : f_X6_isAllowed x_t_allowed x_t_opens x_t_count x_t_open = some res) : CtI l yX6_isAllowed cX6_isAllowed 3 .boolean 0 0 E [.ref a_t] (wd_X6_isAllowed E a_t a_t_count a_t_open x_t_signs w_t_pad x_t_places w_t_page x_t_begins x_t_court x_t_allowed w_t_weight x_t_sights w_t_sight x_t_opens w_t_behind w_t_outs w_t_pack w_t_image w_t_isKept x_t_count x_t_open) (wd_X6_isAllowed E a_t a_t_count a_t_open x_t_signs w_t_pad x_t_places w_t_page x_t_begins x_t_court x_t_allowed w_t_weight x_t_sights w_t_sight x_t_opens w_t_behind w_t_outs w_t_pack w_t_image w_t_isKept x_t_count x_t_open) res := by
  refine CtI.of RX6 (by decide) rfl (Nat.le_of_ble_eq_true rfl) ?_
  intro p e s m below meth c A Q ls X hA hP hD hl fin
  have hx := X.1
  have hb := X.2.1
  have hl : lv_has ls 3 [(0, .ref a_t)] := hl
  have fin' : ∀ (fr0 : Int32), some fr0 = some res → ∀ (pc : Nat) (ls : Array Slot) (H : Heap) (locs : List Loc), decode cX6_isAllowed pc = .ok (.ireturn, 1) → narrow .boolean (.int fr0) = .int fr0 → va_P E.1 vwCl (wd_X6_isAllowed E a_t a_t_count a_t_open x_t_signs w_t_pad x_t_places w_t_page x_t_begins x_t_court x_t_allowed w_t_weight x_t_sights w_t_sight x_t_opens w_t_behind w_t_outs w_t_pack w_t_image w_t_isKept x_t_count x_t_open) H → va_D A (wd_X6_isAllowed E a_t a_t_count a_t_open x_t_signs w_t_pad x_t_places w_t_page x_t_begins x_t_court x_t_allowed w_t_weight x_t_sights w_t_sight x_t_opens w_t_behind w_t_outs w_t_pack w_t_image w_t_isKept x_t_count x_t_open) → va_S A s.heap H locs → W p l e (rmm 0 0) s m ([.ref a_t] : List Value).toArray below meth c H locs 0 0 Q (F0 m pc ls [.int fr0]) := by
    intro fr0 he
    cases he
    exact fin
  have L4 : ∀ (n4 : Nat) (v1 : Int32) (v2 : Int32), f_X6_isAllowed_4 x_t_allowed x_t_opens x_t_count x_t_open n4 v1 v2 = some res → ∀ (H : Heap) (locs : List Loc) (ls : Array Slot), va_P E.1 vwCl (wd_X6_isAllowed E a_t a_t_count a_t_open x_t_signs w_t_pad x_t_places w_t_page x_t_begins x_t_court x_t_allowed w_t_weight x_t_sights w_t_sight x_t_opens w_t_behind w_t_outs w_t_pack w_t_image w_t_isKept x_t_count x_t_open) H → va_D A (wd_X6_isAllowed E a_t a_t_count a_t_open x_t_signs w_t_pad x_t_places w_t_page x_t_begins x_t_court x_t_allowed w_t_weight x_t_sights w_t_sight x_t_opens w_t_behind w_t_outs w_t_pack w_t_image w_t_isKept x_t_count x_t_open) → va_S A s.heap H locs → lv_has ls 3 [(0, .ref a_t), (1, .int v1), (2, .int v2)] → W p l e (rmm 0 0) s m ([.ref a_t] : List Value).toArray below meth c H locs 0 0 Q (F0 m 4 ls []) := by
    intro n4
    induction n4 with
    | zero => intro v1 v2 hf; rw [f_X6_isAllowed_4] at hf; cases hf
    | succ n4 ih4 =>
      intro v1 v2 hf H locs ls hP hD hS hl
      rw [f_X6_isAllowed_4] at hf
      refine lv_iload_n hx hb dX6_isAllowed_4 rfl (lv_at hl 2 rfl) ?_
      refine lv_aload_n hx hb dX6_isAllowed_5 rfl (lv_at hl 0 rfl) ?_
      refine gf_X6_89 X hP 0 rfl rfl dX6_isAllowed_6 ?_
      refine lv_icmp_ge (tgt := 50) hx hb dX6_isAllowed_9 (by decide) (fun c_9 => ?_) (fun c_9 => ?_)
      · have hf := if_t c_9 hf
        refine lv_iload_n hx hb dX6_isAllowed_50 rfl (lv_at hl 1 rfl) ?_
        obtain ⟨hz51, hf⟩ := ck_some hf
        exact fin' _ hf 51 ls H locs dX6_isAllowed_51 (isB_nar hz51) hP hD hS
      · have hf := if_f c_9 hf
        refine lv_iload_n hx hb dX6_isAllowed_12 rfl (lv_at hl 1 rfl) ?_
        refine lv_if_eq (tgt := 42) hx hb dX6_isAllowed_13 (by decide) (fun c_13 => ?_) (fun c_13 => ?_)
        · have hf := if_t c_13 hf
          refine lv_iconst (v := (0 : Int32)) hx hb dX6_isAllowed_42 (by decide) ?_
          refine lv_istore_n (lv' := [(1, .int (0 : Int32)), (0, .ref a_t), (2, .int v2)]) hx hb dX6_isAllowed_43 rfl hl (by decide) rfl (fun ls hl => ?_)
          refine lv_iinc (v := (v2 + (1 : Int32))) (lv' := [(2, .int (v2 + (1 : Int32))), (1, .int (0 : Int32)), (0, .ref a_t)]) hx hb dX6_isAllowed_44 hl (k := 2) rfl rfl (by decide) rfl (fun ls hl => ?_)
          refine lv_goto (tgt := 4) hx hb dX6_isAllowed_47 (by decide) ?_
          exact ih4 (0 : Int32) (v2 + (1 : Int32)) hf H locs ls hP hD hS (lv_sub hl [2, 1, 0] rfl)
        · have hf := if_f c_13 hf
          refine lv_aload_n hx hb dX6_isAllowed_16 rfl (lv_at hl 0 rfl) ?_
          refine gf_X6_26 X hP 0 rfl rfl dX6_isAllowed_17 ?_
          refine lv_aload_n hx hb dX6_isAllowed_20 rfl (lv_at hl 0 rfl) ?_
          refine gf_X6_35 X hP 0 rfl rfl dX6_isAllowed_21 ?_
          refine lv_aload_n hx hb dX6_isAllowed_24 rfl (lv_at hl 0 rfl) ?_
          refine gf_X6_38 X hP 0 rfl rfl dX6_isAllowed_25 ?_
          refine lv_iload_n hx hb dX6_isAllowed_28 rfl (lv_at hl 2 rfl) ?_
          obtain ⟨hi29, hf⟩ := ck_some hf
          refine r_iald X hP 2 rfl hi29 dX6_isAllowed_29 ?_
          obtain ⟨hi30, hf⟩ := ck_some hf
          refine r_iald X hP 1 rfl hi30 dX6_isAllowed_30 ?_
          refine lv_ishr hx hb dX6_isAllowed_31 ?_
          refine lv_iconst (v := (1 : Int32)) hx hb dX6_isAllowed_32 (by decide) ?_
          refine lv_iand hx hb dX6_isAllowed_33 ?_
          refine lv_iconst (v := (1 : Int32)) hx hb dX6_isAllowed_34 (by decide) ?_
          refine lv_icmp_ne (tgt := 42) hx hb dX6_isAllowed_35 (by decide) (fun c_35 => ?_) (fun c_35 => ?_)
          · have hf := if_f c_35 hf
            refine lv_iconst (v := (0 : Int32)) hx hb dX6_isAllowed_42 (by decide) ?_
            refine lv_istore_n (lv' := [(1, .int (0 : Int32)), (0, .ref a_t), (2, .int v2)]) hx hb dX6_isAllowed_43 rfl hl (by decide) rfl (fun ls hl => ?_)
            refine lv_iinc (v := (v2 + (1 : Int32))) (lv' := [(2, .int (v2 + (1 : Int32))), (1, .int (0 : Int32)), (0, .ref a_t)]) hx hb dX6_isAllowed_44 hl (k := 2) rfl rfl (by decide) rfl (fun ls hl => ?_)
            refine lv_goto (tgt := 4) hx hb dX6_isAllowed_47 (by decide) ?_
            exact ih4 (0 : Int32) (v2 + (1 : Int32)) hf H locs ls hP hD hS (lv_sub hl [2, 1, 0] rfl)
          · have hf := if_t c_35 hf
            refine lv_iconst (v := (1 : Int32)) hx hb dX6_isAllowed_38 (by decide) ?_
            refine lv_goto (tgt := 43) hx hb dX6_isAllowed_39 (by decide) ?_
            refine lv_istore_n (lv' := [(1, .int (1 : Int32)), (0, .ref a_t), (2, .int v2)]) hx hb dX6_isAllowed_43 rfl hl (by decide) rfl (fun ls hl => ?_)
            refine lv_iinc (v := (v2 + (1 : Int32))) (lv' := [(2, .int (v2 + (1 : Int32))), (1, .int (1 : Int32)), (0, .ref a_t)]) hx hb dX6_isAllowed_44 hl (k := 2) rfl rfl (by decide) rfl (fun ls hl => ?_)
            refine lv_goto (tgt := 4) hx hb dX6_isAllowed_47 (by decide) ?_
            exact ih4 (1 : Int32) (v2 + (1 : Int32)) hf H locs ls hP hD hS (lv_sub hl [2, 1, 0] rfl)
  have hS : va_S A s.heap s.heap [] := va_S.rf
  obtain ⟨H, hH9⟩ : ∃ z, z = s.heap := ⟨_, rfl⟩
  obtain ⟨locs, hL9⟩ : ∃ z : List Loc, z = [] := ⟨_, rfl⟩
  rw [← hL9]
  rw [← hL9] at hS
  have hP : va_P E.1 vwCl (wd_X6_isAllowed E a_t a_t_count a_t_open x_t_signs w_t_pad x_t_places w_t_page x_t_begins x_t_court x_t_allowed w_t_weight x_t_sights w_t_sight x_t_opens w_t_behind w_t_outs w_t_pack w_t_image w_t_isKept x_t_count x_t_open) H := by rw [hH9]; exact hP
  have hS : va_S A s.heap H locs := by rw [hH9]; exact hS
  suffices hgoal : W p l e (rmm 0 0) s m ([.ref a_t] : List Value).toArray below meth c H locs 0 0 Q (F0 m 0 ls []) by rw [hH9] at hgoal; exact hgoal
  rw [f_X6_isAllowed] at hf
  refine lv_iconst (v := (1 : Int32)) hx hb dX6_isAllowed_0 (by decide) ?_
  refine lv_istore_n (lv' := [(1, .int (1 : Int32)), (0, .ref a_t)]) hx hb dX6_isAllowed_1 rfl hl (by decide) rfl (fun ls hl => ?_)
  refine lv_iconst (v := (0 : Int32)) hx hb dX6_isAllowed_2 (by decide) ?_
  refine lv_istore_n (lv' := [(2, .int (0 : Int32)), (1, .int (1 : Int32)), (0, .ref a_t)]) hx hb dX6_isAllowed_3 rfl hl (by decide) rfl (fun ls hl => ?_)
  exact L4 FU (1 : Int32) (0 : Int32) hf H locs ls hP hD hS (lv_sub hl [2, 1, 0] rfl)
abbrev wd_X6_isApart (E : EN) (a_t : Nat) (a_t_count : Nat) (x_t_signs : Int32) (w_t_pad : Value) (x_t_places : Int32) (w_t_page : Value) (x_t_begins : Int32) (x_t_court : Int32) (x_t_allowed : Int32) (w_t_weight : Value) (x_t_sights : Int32) (w_t_sight : Value) (x_t_opens : Int32) (w_t_open : Value) (w_t_behind : Value) (w_t_outs : Value) (w_t_pack : Value) (w_t_image : Value) (w_t_isKept : Value) (x_t_count : Nat → Int32) : va_W := [(a_t, e_O 6 [.int x_t_signs, w_t_pad, .int x_t_places, w_t_page, .int x_t_begins, .int x_t_court, .int x_t_allowed, w_t_weight, .int x_t_sights, w_t_sight, .ref a_t_count, .int x_t_opens, w_t_open, w_t_behind, w_t_outs, w_t_pack, w_t_image, w_t_isKept]), (a_t_count, e_I E 40 x_t_count)]
def f_X6_isApart_14 (x_t_places : Int32) (x_t_count : Nat → Int32) (K_4 : Int32 → Int32 → Option (Int32)) : Nat → Int32 → Int32 → Int32 → Option (Int32)
  | 0, _, _, _ => none
  | n_ + 1, v1, v2, v3 =>
    if v2 ≤ v3 then
      K_4 v1 (v2 + (1 : Int32))
    else
      if v1 = 0 then
        f_X6_isApart_14 x_t_places x_t_count K_4 n_ (0 : Int32) v2 (v3 + (1 : Int32))
      else
        Option.bind (f_X6_meetOf v2 v3 x_t_places x_t_count) (fun r26 =>
        if 0 ≤ r26 then
          f_X6_isApart_14 x_t_places x_t_count K_4 n_ (0 : Int32) v2 (v3 + (1 : Int32))
        else
          f_X6_isApart_14 x_t_places x_t_count K_4 n_ (1 : Int32) v2 (v3 + (1 : Int32)))
def f_X6_isApart_4 (x_t_places : Int32) (x_t_begins : Int32) (x_t_count : Nat → Int32)  : Nat → Int32 → Int32 → Option (Int32)
  | 0, _, _ => none
  | n_ + 1, v1, v2 =>
    if x_t_begins ≤ v2 then
      ck (isB v1) (
      some v1)
    else
      f_X6_isApart_14 x_t_places x_t_count (f_X6_isApart_4 x_t_places x_t_begins x_t_count n_) FU v1 v2 (0 : Int32)
def f_X6_isApart (x_t_places : Int32) (x_t_begins : Int32) (x_t_count : Nat → Int32) : Option (Int32) :=
  f_X6_isApart_4 x_t_places x_t_begins x_t_count FU (1 : Int32) (0 : Int32)
set_option maxHeartbeats 4000000 in
set_option maxRecDepth 100000 in
theorem c_X6_isApart (l : Launch) (E : EN) (a_t a_t_count : Nat) (x_t_signs : Int32) (w_t_pad : Value) (x_t_places : Int32) (w_t_page : Value) (x_t_begins : Int32) (x_t_court : Int32) (x_t_allowed : Int32) (w_t_weight : Value) (x_t_sights : Int32) (w_t_sight : Value) (x_t_opens : Int32) (w_t_open : Value) (w_t_behind : Value) (w_t_outs : Value) (w_t_pack : Value) (w_t_image : Value) (w_t_isKept : Value) (x_t_count : Nat → Int32)  (res : Int32) (hf : f_X6_isApart x_t_places x_t_begins x_t_count = some res) : CtI l yX6_isApart cX6_isApart 4 .boolean 1 26 E [.ref a_t] (wd_X6_isApart E a_t a_t_count x_t_signs w_t_pad x_t_places w_t_page x_t_begins x_t_court x_t_allowed w_t_weight x_t_sights w_t_sight x_t_opens w_t_open w_t_behind w_t_outs w_t_pack w_t_image w_t_isKept x_t_count) (wd_X6_isApart E a_t a_t_count x_t_signs w_t_pad x_t_places w_t_page x_t_begins x_t_court x_t_allowed w_t_weight x_t_sights w_t_sight x_t_opens w_t_open w_t_behind w_t_outs w_t_pack w_t_image w_t_isKept x_t_count) res := by
  refine CtI.of RX6 (by decide) rfl (Nat.le_of_ble_eq_true rfl) ?_
  intro p e s m below meth c A Q ls X hA hP hD hl fin
  have hx := X.1
  have hb := X.2.1
  have hl : lv_has ls 4 [(0, .ref a_t)] := hl
  have fin' : ∀ (fr0 : Int32), some fr0 = some res → ∀ (pc : Nat) (ls : Array Slot) (H : Heap) (locs : List Loc), decode cX6_isApart pc = .ok (.ireturn, 1) → narrow .boolean (.int fr0) = .int fr0 → va_P E.1 vwCl (wd_X6_isApart E a_t a_t_count x_t_signs w_t_pad x_t_places w_t_page x_t_begins x_t_court x_t_allowed w_t_weight x_t_sights w_t_sight x_t_opens w_t_open w_t_behind w_t_outs w_t_pack w_t_image w_t_isKept x_t_count) H → va_D A (wd_X6_isApart E a_t a_t_count x_t_signs w_t_pad x_t_places w_t_page x_t_begins x_t_court x_t_allowed w_t_weight x_t_sights w_t_sight x_t_opens w_t_open w_t_behind w_t_outs w_t_pack w_t_image w_t_isKept x_t_count) → va_S A s.heap H locs → W p l e (rmm 1 26) s m ([.ref a_t] : List Value).toArray below meth c H locs 0 0 Q (F0 m pc ls [.int fr0]) := by
    intro fr0 he
    cases he
    exact fin
  have L4 : ∀ (n4 : Nat) (v1 : Int32) (v2 : Int32), f_X6_isApart_4 x_t_places x_t_begins x_t_count n4 v1 v2 = some res → ∀ (H : Heap) (locs : List Loc) (ls : Array Slot), va_P E.1 vwCl (wd_X6_isApart E a_t a_t_count x_t_signs w_t_pad x_t_places w_t_page x_t_begins x_t_court x_t_allowed w_t_weight x_t_sights w_t_sight x_t_opens w_t_open w_t_behind w_t_outs w_t_pack w_t_image w_t_isKept x_t_count) H → va_D A (wd_X6_isApart E a_t a_t_count x_t_signs w_t_pad x_t_places w_t_page x_t_begins x_t_court x_t_allowed w_t_weight x_t_sights w_t_sight x_t_opens w_t_open w_t_behind w_t_outs w_t_pack w_t_image w_t_isKept x_t_count) → va_S A s.heap H locs → lv_has ls 4 [(0, .ref a_t), (1, .int v1), (2, .int v2)] → W p l e (rmm 1 26) s m ([.ref a_t] : List Value).toArray below meth c H locs 0 0 Q (F0 m 4 ls []) := by
    intro n4
    induction n4 with
    | zero => intro v1 v2 hf; rw [f_X6_isApart_4] at hf; cases hf
    | succ n4 ih4 =>
      have L14 : ∀ (n14 : Nat) (v1 : Int32) (v2 : Int32) (v3 : Int32), f_X6_isApart_14 x_t_places x_t_count (f_X6_isApart_4 x_t_places x_t_begins x_t_count n4) n14 v1 v2 v3 = some res → ∀ (H : Heap) (locs : List Loc) (ls : Array Slot), va_P E.1 vwCl (wd_X6_isApart E a_t a_t_count x_t_signs w_t_pad x_t_places w_t_page x_t_begins x_t_court x_t_allowed w_t_weight x_t_sights w_t_sight x_t_opens w_t_open w_t_behind w_t_outs w_t_pack w_t_image w_t_isKept x_t_count) H → va_D A (wd_X6_isApart E a_t a_t_count x_t_signs w_t_pad x_t_places w_t_page x_t_begins x_t_court x_t_allowed w_t_weight x_t_sights w_t_sight x_t_opens w_t_open w_t_behind w_t_outs w_t_pack w_t_image w_t_isKept x_t_count) → va_S A s.heap H locs → lv_has ls 4 [(0, .ref a_t), (1, .int v1), (2, .int v2), (3, .int v3)] → W p l e (rmm 1 26) s m ([.ref a_t] : List Value).toArray below meth c H locs 0 0 Q (F0 m 14 ls []) := by
        intro n14
        induction n14 with
        | zero => intro v1 v2 v3 hf; rw [f_X6_isApart_14] at hf; cases hf
        | succ n14 ih14 =>
          intro v1 v2 v3 hf H locs ls hP hD hS hl
          rw [f_X6_isApart_14] at hf
          refine lv_iload_n hx hb dX6_isApart_14 rfl (lv_at hl 3 rfl) ?_
          refine lv_iload_n hx hb dX6_isApart_15 rfl (lv_at hl 2 rfl) ?_
          refine lv_icmp_ge (tgt := 44) hx hb dX6_isApart_16 (by decide) (fun c_16 => ?_) (fun c_16 => ?_)
          · have hf := if_t c_16 hf
            refine lv_iinc (v := (v2 + (1 : Int32))) (lv' := [(2, .int (v2 + (1 : Int32))), (0, .ref a_t), (1, .int v1), (3, .int v3)]) hx hb dX6_isApart_44 hl (k := 2) rfl rfl (by decide) rfl (fun ls hl => ?_)
            refine lv_goto (tgt := 4) hx hb dX6_isApart_47 (by decide) ?_
            exact ih4 v1 (v2 + (1 : Int32)) hf H locs ls hP hD hS (lv_sub hl [1, 2, 0] rfl)
          · have hf := if_f c_16 hf
            refine lv_iload_n hx hb dX6_isApart_19 rfl (lv_at hl 1 rfl) ?_
            refine lv_if_eq (tgt := 36) hx hb dX6_isApart_20 (by decide) (fun c_20 => ?_) (fun c_20 => ?_)
            · have hf := if_t c_20 hf
              refine lv_iconst (v := (0 : Int32)) hx hb dX6_isApart_36 (by decide) ?_
              refine lv_istore_n (lv' := [(1, .int (0 : Int32)), (0, .ref a_t), (2, .int v2), (3, .int v3)]) hx hb dX6_isApart_37 rfl hl (by decide) rfl (fun ls hl => ?_)
              refine lv_iinc (v := (v3 + (1 : Int32))) (lv' := [(3, .int (v3 + (1 : Int32))), (1, .int (0 : Int32)), (0, .ref a_t), (2, .int v2)]) hx hb dX6_isApart_38 hl (k := 3) rfl rfl (by decide) rfl (fun ls hl => ?_)
              refine lv_goto (tgt := 14) hx hb dX6_isApart_41 (by decide) ?_
              exact ih14 (0 : Int32) v2 (v3 + (1 : Int32)) hf H locs ls hP hD hS (lv_sub hl [2, 1, 3, 0] rfl)
            · have hf := if_f c_20 hf
              refine lv_aload_n hx hb dX6_isApart_23 rfl (lv_at hl 0 rfl) ?_
              refine lv_iload_n hx hb dX6_isApart_24 rfl (lv_at hl 2 rfl) ?_
              refine lv_iload_n hx hb dX6_isApart_25 rfl (lv_at hl 3 rfl) ?_
              obtain ⟨r26, hc26, hf⟩ := bd_some hf
              refine cV_I X hA hP hD hS hl.1 (c_X6_meetOf l E a_t a_t_count x_t_signs w_t_pad x_t_places w_t_page x_t_begins x_t_court x_t_allowed w_t_weight x_t_sights w_t_sight x_t_opens w_t_open w_t_behind w_t_outs w_t_pack w_t_image w_t_isKept x_t_count v2 v3 r26 hc26) 2 k_777 mw_X6_meetOf hd_X6_meetOf ⟨Nat.le_of_ble_eq_true rfl, Nat.le_of_ble_eq_true rfl⟩ [0, 1] [] [0, 1] rfl rfl (wr := []) rfl rfl rfl 6 0 rfl rfl rfl rfl rfl (Nat.le_of_ble_eq_true rfl) rfl (ws' := (wd_X6_isApart E a_t a_t_count x_t_signs w_t_pad x_t_places w_t_page x_t_begins x_t_court x_t_allowed w_t_weight x_t_sights w_t_sight x_t_opens w_t_open w_t_behind w_t_outs w_t_pack w_t_image w_t_isKept x_t_count)) rfl ⟨Nat.le_of_ble_eq_true rfl, Nat.le_of_ble_eq_true rfl⟩ dX6_isApart_26 (fun H locs hP hD hS => ?_)
              refine lv_if_ge (tgt := 36) hx hb dX6_isApart_29 (by decide) (fun c_29 => ?_) (fun c_29 => ?_)
              · have hf := if_t c_29 hf
                refine lv_iconst (v := (0 : Int32)) hx hb dX6_isApart_36 (by decide) ?_
                refine lv_istore_n (lv' := [(1, .int (0 : Int32)), (0, .ref a_t), (2, .int v2), (3, .int v3)]) hx hb dX6_isApart_37 rfl hl (by decide) rfl (fun ls hl => ?_)
                refine lv_iinc (v := (v3 + (1 : Int32))) (lv' := [(3, .int (v3 + (1 : Int32))), (1, .int (0 : Int32)), (0, .ref a_t), (2, .int v2)]) hx hb dX6_isApart_38 hl (k := 3) rfl rfl (by decide) rfl (fun ls hl => ?_)
                refine lv_goto (tgt := 14) hx hb dX6_isApart_41 (by decide) ?_
                exact ih14 (0 : Int32) v2 (v3 + (1 : Int32)) hf H locs ls hP hD hS (lv_sub hl [2, 1, 3, 0] rfl)
              · have hf := if_f c_29 hf
                refine lv_iconst (v := (1 : Int32)) hx hb dX6_isApart_32 (by decide) ?_
                refine lv_goto (tgt := 37) hx hb dX6_isApart_33 (by decide) ?_
                refine lv_istore_n (lv' := [(1, .int (1 : Int32)), (0, .ref a_t), (2, .int v2), (3, .int v3)]) hx hb dX6_isApart_37 rfl hl (by decide) rfl (fun ls hl => ?_)
                refine lv_iinc (v := (v3 + (1 : Int32))) (lv' := [(3, .int (v3 + (1 : Int32))), (1, .int (1 : Int32)), (0, .ref a_t), (2, .int v2)]) hx hb dX6_isApart_38 hl (k := 3) rfl rfl (by decide) rfl (fun ls hl => ?_)
                refine lv_goto (tgt := 14) hx hb dX6_isApart_41 (by decide) ?_
                exact ih14 (1 : Int32) v2 (v3 + (1 : Int32)) hf H locs ls hP hD hS (lv_sub hl [2, 1, 3, 0] rfl)
      intro v1 v2 hf H locs ls hP hD hS hl
      rw [f_X6_isApart_4] at hf
      refine lv_iload_n hx hb dX6_isApart_4 rfl (lv_at hl 2 rfl) ?_
      refine lv_aload_n hx hb dX6_isApart_5 rfl (lv_at hl 0 rfl) ?_
      refine gf_X6_20 X hP 0 rfl rfl dX6_isApart_6 ?_
      refine lv_icmp_ge (tgt := 50) hx hb dX6_isApart_9 (by decide) (fun c_9 => ?_) (fun c_9 => ?_)
      · have hf := if_t c_9 hf
        refine lv_iload_n hx hb dX6_isApart_50 rfl (lv_at hl 1 rfl) ?_
        obtain ⟨hz51, hf⟩ := ck_some hf
        exact fin' _ hf 51 ls H locs dX6_isApart_51 (isB_nar hz51) hP hD hS
      · have hf := if_f c_9 hf
        refine lv_iconst (v := (0 : Int32)) hx hb dX6_isApart_12 (by decide) ?_
        refine lv_istore_n (lv' := [(3, .int (0 : Int32)), (0, .ref a_t), (1, .int v1), (2, .int v2)]) hx hb dX6_isApart_13 rfl hl (by decide) rfl (fun ls hl => ?_)
        exact L14 FU v1 v2 (0 : Int32) hf H locs ls hP hD hS (lv_sub hl [1, 2, 3, 0] rfl)
  have hS : va_S A s.heap s.heap [] := va_S.rf
  obtain ⟨H, hH9⟩ : ∃ z, z = s.heap := ⟨_, rfl⟩
  obtain ⟨locs, hL9⟩ : ∃ z : List Loc, z = [] := ⟨_, rfl⟩
  rw [← hL9]
  rw [← hL9] at hS
  have hP : va_P E.1 vwCl (wd_X6_isApart E a_t a_t_count x_t_signs w_t_pad x_t_places w_t_page x_t_begins x_t_court x_t_allowed w_t_weight x_t_sights w_t_sight x_t_opens w_t_open w_t_behind w_t_outs w_t_pack w_t_image w_t_isKept x_t_count) H := by rw [hH9]; exact hP
  have hS : va_S A s.heap H locs := by rw [hH9]; exact hS
  suffices hgoal : W p l e (rmm 1 26) s m ([.ref a_t] : List Value).toArray below meth c H locs 0 0 Q (F0 m 0 ls []) by rw [hH9] at hgoal; exact hgoal
  rw [f_X6_isApart] at hf
  refine lv_iconst (v := (1 : Int32)) hx hb dX6_isApart_0 (by decide) ?_
  refine lv_istore_n (lv' := [(1, .int (1 : Int32)), (0, .ref a_t)]) hx hb dX6_isApart_1 rfl hl (by decide) rfl (fun ls hl => ?_)
  refine lv_iconst (v := (0 : Int32)) hx hb dX6_isApart_2 (by decide) ?_
  refine lv_istore_n (lv' := [(2, .int (0 : Int32)), (1, .int (1 : Int32)), (0, .ref a_t)]) hx hb dX6_isApart_3 rfl hl (by decide) rfl (fun ls hl => ?_)
  exact L4 FU (1 : Int32) (0 : Int32) hf H locs ls hP hD hS (lv_sub hl [2, 1, 0] rfl)
abbrev wd_X6_holds (E : EN) (a_t : Nat) (a_t_count : Nat) (x_t_signs : Int32) (w_t_pad : Value) (x_t_places : Int32) (w_t_page : Value) (x_t_begins : Int32) (x_t_court : Int32) (x_t_allowed : Int32) (w_t_weight : Value) (x_t_sights : Int32) (w_t_sight : Value) (x_t_opens : Int32) (w_t_open : Value) (w_t_behind : Value) (w_t_outs : Value) (w_t_pack : Value) (w_t_image : Value) (w_t_isKept : Value) (x_t_count : Nat → Int32) : va_W := [(a_t, e_O 6 [.int x_t_signs, w_t_pad, .int x_t_places, w_t_page, .int x_t_begins, .int x_t_court, .int x_t_allowed, w_t_weight, .int x_t_sights, w_t_sight, .ref a_t_count, .int x_t_opens, w_t_open, w_t_behind, w_t_outs, w_t_pack, w_t_image, w_t_isKept]), (a_t_count, e_I E 40 x_t_count)]
def f_X6_holds (p1 : Int32) (p2 : Int32) (x_t_places : Int32) (x_t_begins : Int32) (x_t_count : Nat → Int32) : Option (Int32) :=
  if p1 = 0 then
    Option.bind (f_X6_outsOfAll x_t_places x_t_begins x_t_count) (fun r29 =>
    if r29 = (1 : Int32) then
      some (1 : Int32)
    else
      some (0 : Int32))
  else
  if p1 = 1 then
    Option.bind (f_X6_isApart x_t_places x_t_begins x_t_count) (fun r43 =>
    ck (isB r43) (
    some r43))
  else
  if p1 = 2 then
    Option.bind (f_X6_outsOfAll x_t_places x_t_begins x_t_count) (fun r48 =>
    if r48 = (2 : Int32) then
      some (1 : Int32)
    else
      some (0 : Int32))
  else
  Option.bind (f_X6_isPassed p2 x_t_places x_t_begins x_t_count) (fun r63 =>
  ck (isB r63) (
  some r63))
set_option maxHeartbeats 4000000 in
set_option maxRecDepth 100000 in
theorem c_X6_holds (l : Launch) (E : EN) (a_t a_t_count : Nat) (x_t_signs : Int32) (w_t_pad : Value) (x_t_places : Int32) (w_t_page : Value) (x_t_begins : Int32) (x_t_court : Int32) (x_t_allowed : Int32) (w_t_weight : Value) (x_t_sights : Int32) (w_t_sight : Value) (x_t_opens : Int32) (w_t_open : Value) (w_t_behind : Value) (w_t_outs : Value) (w_t_pack : Value) (w_t_image : Value) (w_t_isKept : Value) (x_t_count : Nat → Int32) (p1 : Int32) (p2 : Int32) (res : Int32) (hf : f_X6_holds p1 p2 x_t_places x_t_begins x_t_count = some res) : CtI l yX6_holds cX6_holds 3 .boolean 2 49 E [.ref a_t, .int p1, .int p2] (wd_X6_holds E a_t a_t_count x_t_signs w_t_pad x_t_places w_t_page x_t_begins x_t_court x_t_allowed w_t_weight x_t_sights w_t_sight x_t_opens w_t_open w_t_behind w_t_outs w_t_pack w_t_image w_t_isKept x_t_count) (wd_X6_holds E a_t a_t_count x_t_signs w_t_pad x_t_places w_t_page x_t_begins x_t_court x_t_allowed w_t_weight x_t_sights w_t_sight x_t_opens w_t_open w_t_behind w_t_outs w_t_pack w_t_image w_t_isKept x_t_count) res := by
  refine CtI.of RX6 (by decide) rfl (Nat.le_of_ble_eq_true rfl) ?_
  intro p e s m below meth c A Q ls X hA hP hD hl fin
  have hx := X.1
  have hb := X.2.1
  have hl : lv_has ls 3 [(0, .ref a_t), (1, .int p1), (2, .int p2)] := hl
  have fin' : ∀ (fr0 : Int32), some fr0 = some res → ∀ (pc : Nat) (ls : Array Slot) (H : Heap) (locs : List Loc), decode cX6_holds pc = .ok (.ireturn, 1) → narrow .boolean (.int fr0) = .int fr0 → va_P E.1 vwCl (wd_X6_holds E a_t a_t_count x_t_signs w_t_pad x_t_places w_t_page x_t_begins x_t_court x_t_allowed w_t_weight x_t_sights w_t_sight x_t_opens w_t_open w_t_behind w_t_outs w_t_pack w_t_image w_t_isKept x_t_count) H → va_D A (wd_X6_holds E a_t a_t_count x_t_signs w_t_pad x_t_places w_t_page x_t_begins x_t_court x_t_allowed w_t_weight x_t_sights w_t_sight x_t_opens w_t_open w_t_behind w_t_outs w_t_pack w_t_image w_t_isKept x_t_count) → va_S A s.heap H locs → W p l e (rmm 2 49) s m ([.ref a_t, .int p1, .int p2] : List Value).toArray below meth c H locs 0 0 Q (F0 m pc ls [.int fr0]) := by
    intro fr0 he
    cases he
    exact fin
  have hS : va_S A s.heap s.heap [] := va_S.rf
  obtain ⟨H, hH9⟩ : ∃ z, z = s.heap := ⟨_, rfl⟩
  obtain ⟨locs, hL9⟩ : ∃ z : List Loc, z = [] := ⟨_, rfl⟩
  rw [← hL9]
  rw [← hL9] at hS
  have hP : va_P E.1 vwCl (wd_X6_holds E a_t a_t_count x_t_signs w_t_pad x_t_places w_t_page x_t_begins x_t_court x_t_allowed w_t_weight x_t_sights w_t_sight x_t_opens w_t_open w_t_behind w_t_outs w_t_pack w_t_image w_t_isKept x_t_count) H := by rw [hH9]; exact hP
  have hS : va_S A s.heap H locs := by rw [hH9]; exact hS
  suffices hgoal : W p l e (rmm 2 49) s m ([.ref a_t, .int p1, .int p2] : List Value).toArray below meth c H locs 0 0 Q (F0 m 0 ls []) by rw [hH9] at hgoal; exact hgoal
  rw [f_X6_holds] at hf
  refine lv_iload_n hx hb dX6_holds_0 rfl (lv_at hl 1 rfl) ?_
  by_cases w1_0 : p1 = 0
  · have hf := if_t w1_0 hf
    refine lv_tableIn (off := 27) (tgt := 28) hx hb dX6_holds_1 (by rw [w1_0]; decide) (by rw [w1_0]; decide) (by rw [w1_0]; rfl) (by decide) ?_
    refine lv_aload_n hx hb dX6_holds_28 rfl (lv_at hl 0 rfl) ?_
    obtain ⟨r29, hc29, hf⟩ := bd_some hf
    refine cV_I X hA hP hD hS hl.1 (c_X6_outsOfAll l E a_t a_t_count x_t_signs w_t_pad x_t_places w_t_page x_t_begins x_t_court x_t_allowed w_t_weight x_t_sights w_t_sight x_t_opens w_t_open w_t_behind w_t_outs w_t_pack w_t_image w_t_isKept x_t_count r29 hc29) 0 k_769 mw_X6_outsOfAll hd_X6_outsOfAll ⟨Nat.le_of_ble_eq_true rfl, Nat.le_of_ble_eq_true rfl⟩ [0, 1] [] [0, 1] rfl rfl (wr := []) rfl rfl rfl 6 0 rfl rfl rfl rfl rfl (Nat.le_of_ble_eq_true rfl) rfl (ws' := (wd_X6_holds E a_t a_t_count x_t_signs w_t_pad x_t_places w_t_page x_t_begins x_t_court x_t_allowed w_t_weight x_t_sights w_t_sight x_t_opens w_t_open w_t_behind w_t_outs w_t_pack w_t_image w_t_isKept x_t_count)) rfl ⟨Nat.le_of_ble_eq_true rfl, Nat.le_of_ble_eq_true rfl⟩ dX6_holds_29 (fun H locs hP hD hS => ?_)
    refine lv_iconst (v := (1 : Int32)) hx hb dX6_holds_32 (by decide) ?_
    refine lv_icmp_ne (tgt := 40) hx hb dX6_holds_33 (by decide) (fun c_33 => ?_) (fun c_33 => ?_)
    · have hf := if_f c_33 hf
      refine lv_iconst (v := (0 : Int32)) hx hb dX6_holds_40 (by decide) ?_
      exact fin' _ hf 41 ls H locs dX6_holds_41 rfl hP hD hS
    · have hf := if_t c_33 hf
      refine lv_iconst (v := (1 : Int32)) hx hb dX6_holds_36 (by decide) ?_
      refine lv_goto (tgt := 41) hx hb dX6_holds_37 (by decide) ?_
      exact fin' _ hf 41 ls H locs dX6_holds_41 rfl hP hD hS
  have hf := if_f w1_0 hf
  by_cases w1_1 : p1 = 1
  · have hf := if_t w1_1 hf
    refine lv_tableIn (off := 41) (tgt := 42) hx hb dX6_holds_1 (by rw [w1_1]; decide) (by rw [w1_1]; decide) (by rw [w1_1]; rfl) (by decide) ?_
    refine lv_aload_n hx hb dX6_holds_42 rfl (lv_at hl 0 rfl) ?_
    obtain ⟨r43, hc43, hf⟩ := bd_some hf
    refine cV_I X hA hP hD hS hl.1 (c_X6_isApart l E a_t a_t_count x_t_signs w_t_pad x_t_places w_t_page x_t_begins x_t_court x_t_allowed w_t_weight x_t_sights w_t_sight x_t_opens w_t_open w_t_behind w_t_outs w_t_pack w_t_image w_t_isKept x_t_count r43 hc43) 0 k_867 mw_X6_isApart hd_X6_isApart ⟨Nat.le_of_ble_eq_true rfl, Nat.le_of_ble_eq_true rfl⟩ [0, 1] [] [0, 1] rfl rfl (wr := []) rfl rfl rfl 6 0 rfl rfl rfl rfl rfl (Nat.le_of_ble_eq_true rfl) rfl (ws' := (wd_X6_holds E a_t a_t_count x_t_signs w_t_pad x_t_places w_t_page x_t_begins x_t_court x_t_allowed w_t_weight x_t_sights w_t_sight x_t_opens w_t_open w_t_behind w_t_outs w_t_pack w_t_image w_t_isKept x_t_count)) rfl ⟨Nat.le_of_ble_eq_true rfl, Nat.le_of_ble_eq_true rfl⟩ dX6_holds_43 (fun H locs hP hD hS => ?_)
    obtain ⟨hz46, hf⟩ := ck_some hf
    exact fin' _ hf 46 ls H locs dX6_holds_46 (isB_nar hz46) hP hD hS
  have hf := if_f w1_1 hf
  by_cases w1_2 : p1 = 2
  · have hf := if_t w1_2 hf
    refine lv_tableIn (off := 46) (tgt := 47) hx hb dX6_holds_1 (by rw [w1_2]; decide) (by rw [w1_2]; decide) (by rw [w1_2]; rfl) (by decide) ?_
    refine lv_aload_n hx hb dX6_holds_47 rfl (lv_at hl 0 rfl) ?_
    obtain ⟨r48, hc48, hf⟩ := bd_some hf
    refine cV_I X hA hP hD hS hl.1 (c_X6_outsOfAll l E a_t a_t_count x_t_signs w_t_pad x_t_places w_t_page x_t_begins x_t_court x_t_allowed w_t_weight x_t_sights w_t_sight x_t_opens w_t_open w_t_behind w_t_outs w_t_pack w_t_image w_t_isKept x_t_count r48 hc48) 0 k_769 mw_X6_outsOfAll hd_X6_outsOfAll ⟨Nat.le_of_ble_eq_true rfl, Nat.le_of_ble_eq_true rfl⟩ [0, 1] [] [0, 1] rfl rfl (wr := []) rfl rfl rfl 6 0 rfl rfl rfl rfl rfl (Nat.le_of_ble_eq_true rfl) rfl (ws' := (wd_X6_holds E a_t a_t_count x_t_signs w_t_pad x_t_places w_t_page x_t_begins x_t_court x_t_allowed w_t_weight x_t_sights w_t_sight x_t_opens w_t_open w_t_behind w_t_outs w_t_pack w_t_image w_t_isKept x_t_count)) rfl ⟨Nat.le_of_ble_eq_true rfl, Nat.le_of_ble_eq_true rfl⟩ dX6_holds_48 (fun H locs hP hD hS => ?_)
    refine lv_iconst (v := (2 : Int32)) hx hb dX6_holds_51 (by decide) ?_
    refine lv_icmp_ne (tgt := 59) hx hb dX6_holds_52 (by decide) (fun c_52 => ?_) (fun c_52 => ?_)
    · have hf := if_f c_52 hf
      refine lv_iconst (v := (0 : Int32)) hx hb dX6_holds_59 (by decide) ?_
      exact fin' _ hf 60 ls H locs dX6_holds_60 rfl hP hD hS
    · have hf := if_t c_52 hf
      refine lv_iconst (v := (1 : Int32)) hx hb dX6_holds_55 (by decide) ?_
      refine lv_goto (tgt := 60) hx hb dX6_holds_56 (by decide) ?_
      exact fin' _ hf 60 ls H locs dX6_holds_60 rfl hP hD hS
  have hf := if_f w1_2 hf
  refine lv_tableOut (x := p1) (tgt := 61) hx hb dX6_holds_1 (by have q0 := lv_neT (a := 0) w1_0 (by decide); have q1 := lv_neT (a := 1) w1_1 (by decide); have q2 := lv_neT (a := 2) w1_2 (by decide); omega) (by decide) ?_
  refine lv_aload_n hx hb dX6_holds_61 rfl (lv_at hl 0 rfl) ?_
  refine lv_iload_n hx hb dX6_holds_62 rfl (lv_at hl 2 rfl) ?_
  obtain ⟨r63, hc63, hf⟩ := bd_some hf
  refine cV_I X hA hP hD hS hl.1 (c_X6_isPassed l E a_t a_t_count x_t_signs w_t_pad x_t_places w_t_page x_t_begins x_t_court x_t_allowed w_t_weight x_t_sights w_t_sight x_t_opens w_t_open w_t_behind w_t_outs w_t_pack w_t_image w_t_isKept x_t_count p2 r63 hc63) 1 k_785 mw_X6_isPassed hd_X6_isPassed ⟨Nat.le_of_ble_eq_true rfl, Nat.le_of_ble_eq_true rfl⟩ [0, 1] [] [0, 1] rfl rfl (wr := []) rfl rfl rfl 6 0 rfl rfl rfl rfl rfl (Nat.le_of_ble_eq_true rfl) rfl (ws' := (wd_X6_holds E a_t a_t_count x_t_signs w_t_pad x_t_places w_t_page x_t_begins x_t_court x_t_allowed w_t_weight x_t_sights w_t_sight x_t_opens w_t_open w_t_behind w_t_outs w_t_pack w_t_image w_t_isKept x_t_count)) rfl ⟨Nat.le_of_ble_eq_true rfl, Nat.le_of_ble_eq_true rfl⟩ dX6_holds_63 (fun H locs hP hD hS => ?_)
  obtain ⟨hz66, hf⟩ := ck_some hf
  exact fin' _ hf 66 ls H locs dX6_holds_66 (isB_nar hz66) hP hD hS
abbrev wd_X6_countIn (E : EN) (a_t : Nat) (a_t_count : Nat) (a_t_open : Nat) (a_t_weight : Nat) (x_t_signs : Int32) (w_t_pad : Value) (x_t_places : Int32) (w_t_page : Value) (x_t_begins : Int32) (x_t_court : Int32) (x_t_allowed : Int32) (x_t_sights : Int32) (w_t_sight : Value) (x_t_opens : Int32) (w_t_behind : Value) (w_t_outs : Value) (w_t_pack : Value) (w_t_image : Value) (w_t_isKept : Value) (x_t_count : Nat → Int32) (x_t_open : Nat → Int32) (x_t_weight : Nat → Int32) : va_W := [(a_t, e_O 6 [.int x_t_signs, w_t_pad, .int x_t_places, w_t_page, .int x_t_begins, .int x_t_court, .int x_t_allowed, .ref a_t_weight, .int x_t_sights, w_t_sight, .ref a_t_count, .int x_t_opens, .ref a_t_open, w_t_behind, w_t_outs, w_t_pack, w_t_image, w_t_isKept]), (a_t_count, e_I E 40 x_t_count), (a_t_open, e_I E 5 x_t_open), (a_t_weight, e_I E 11 x_t_weight)]
def f_X6_countIn (p1 : Int32) (p2 : Int32) (x_t_opens : Int32) (x_t_count : Nat → Int32) (x_t_open : Nat → Int32) (x_t_weight : Nat → Int32) : Option (Int32 × (Nat → Int32)) :=
  Option.bind (f_X6_writeIn p1 x_t_opens x_t_count x_t_open x_t_weight) (fun r2 =>
  Option.bind (f_X6_in p2 (0 : Int32) (x_t_opens - (1 : Int32))) (fun r14 =>
  if r14 = 0 then
    some ((-6 : Int32), r2.2)
  else
    if r2.1 < 0 then
      some ((-6 : Int32), r2.2)
    else
      ck (inB p2 5) (
      ck (inB (x_t_open (ix p2)) 40) (
      some ((r2.2 (ix (x_t_open (ix p2)))), r2.2)))))
set_option maxHeartbeats 4000000 in
set_option maxRecDepth 100000 in
theorem c_X6_countIn (l : Launch) (E : EN) (a_t a_t_count a_t_open a_t_weight : Nat) (x_t_signs : Int32) (w_t_pad : Value) (x_t_places : Int32) (w_t_page : Value) (x_t_begins : Int32) (x_t_court : Int32) (x_t_allowed : Int32) (x_t_sights : Int32) (w_t_sight : Value) (x_t_opens : Int32) (w_t_behind : Value) (w_t_outs : Value) (w_t_pack : Value) (w_t_image : Value) (w_t_isKept : Value) (x_t_count : Nat → Int32) (x_t_open : Nat → Int32) (x_t_weight : Nat → Int32) (p1 : Int32) (p2 : Int32) (res : Int32 × (Nat → Int32)) (hf : f_X6_countIn p1 p2 x_t_opens x_t_count x_t_open x_t_weight = some res) : CtI l yX6_countIn cX6_countIn 4 .int 1 25 E [.ref a_t, .int p1, .int p2] (wd_X6_countIn E a_t a_t_count a_t_open a_t_weight x_t_signs w_t_pad x_t_places w_t_page x_t_begins x_t_court x_t_allowed x_t_sights w_t_sight x_t_opens w_t_behind w_t_outs w_t_pack w_t_image w_t_isKept x_t_count x_t_open x_t_weight) (wd_X6_countIn E a_t a_t_count a_t_open a_t_weight x_t_signs w_t_pad x_t_places w_t_page x_t_begins x_t_court x_t_allowed x_t_sights w_t_sight x_t_opens w_t_behind w_t_outs w_t_pack w_t_image w_t_isKept res.2 x_t_open x_t_weight) res.1 := by
  refine CtI.of RX6 (by decide) rfl (Nat.le_of_ble_eq_true rfl) ?_
  intro p e s m below meth c A Q ls X hA hP hD hl fin
  have hx := X.1
  have hb := X.2.1
  have hl : lv_has ls 4 [(0, .ref a_t), (1, .int p1), (2, .int p2)] := hl
  have fin' : ∀ (fr0 : Int32) (fr1 : (Nat → Int32)), some (fr0, fr1) = some res → ∀ (pc : Nat) (ls : Array Slot) (H : Heap) (locs : List Loc), decode cX6_countIn pc = .ok (.ireturn, 1) → narrow .int (.int fr0) = .int fr0 → va_P E.1 vwCl (wd_X6_countIn E a_t a_t_count a_t_open a_t_weight x_t_signs w_t_pad x_t_places w_t_page x_t_begins x_t_court x_t_allowed x_t_sights w_t_sight x_t_opens w_t_behind w_t_outs w_t_pack w_t_image w_t_isKept fr1 x_t_open x_t_weight) H → va_D A (wd_X6_countIn E a_t a_t_count a_t_open a_t_weight x_t_signs w_t_pad x_t_places w_t_page x_t_begins x_t_court x_t_allowed x_t_sights w_t_sight x_t_opens w_t_behind w_t_outs w_t_pack w_t_image w_t_isKept fr1 x_t_open x_t_weight) → va_S A s.heap H locs → W p l e (rmm 1 25) s m ([.ref a_t, .int p1, .int p2] : List Value).toArray below meth c H locs 0 0 Q (F0 m pc ls [.int fr0]) := by
    intro fr0 fr1 he
    cases he
    exact fin
  have hS : va_S A s.heap s.heap [] := va_S.rf
  obtain ⟨H, hH9⟩ : ∃ z, z = s.heap := ⟨_, rfl⟩
  obtain ⟨locs, hL9⟩ : ∃ z : List Loc, z = [] := ⟨_, rfl⟩
  rw [← hL9]
  rw [← hL9] at hS
  have hP : va_P E.1 vwCl (wd_X6_countIn E a_t a_t_count a_t_open a_t_weight x_t_signs w_t_pad x_t_places w_t_page x_t_begins x_t_court x_t_allowed x_t_sights w_t_sight x_t_opens w_t_behind w_t_outs w_t_pack w_t_image w_t_isKept x_t_count x_t_open x_t_weight) H := by rw [hH9]; exact hP
  have hS : va_S A s.heap H locs := by rw [hH9]; exact hS
  suffices hgoal : W p l e (rmm 1 25) s m ([.ref a_t, .int p1, .int p2] : List Value).toArray below meth c H locs 0 0 Q (F0 m 0 ls []) by rw [hH9] at hgoal; exact hgoal
  rw [f_X6_countIn] at hf
  refine lv_aload_n hx hb dX6_countIn_0 rfl (lv_at hl 0 rfl) ?_
  refine lv_iload_n hx hb dX6_countIn_1 rfl (lv_at hl 1 rfl) ?_
  obtain ⟨r2, hc2, hf⟩ := bd_some hf
  refine cV_I X hA hP hD hS hl.1 (c_X6_writeIn l E a_t a_t_count a_t_open a_t_weight x_t_signs w_t_pad x_t_places w_t_page x_t_begins x_t_court x_t_allowed x_t_sights w_t_sight x_t_opens w_t_behind w_t_outs w_t_pack w_t_image w_t_isKept x_t_count x_t_open x_t_weight p1 r2 hc2) 1 k_840 mw_X6_writeIn hd_X6_writeIn ⟨Nat.le_of_ble_eq_true rfl, Nat.le_of_ble_eq_true rfl⟩ [0, 1, 2, 3] [] [0, 1, 2, 3] rfl rfl (wr := []) rfl rfl rfl 6 0 rfl rfl rfl rfl rfl (Nat.le_of_ble_eq_true rfl) rfl (ws' := (wd_X6_countIn E a_t a_t_count a_t_open a_t_weight x_t_signs w_t_pad x_t_places w_t_page x_t_begins x_t_court x_t_allowed x_t_sights w_t_sight x_t_opens w_t_behind w_t_outs w_t_pack w_t_image w_t_isKept r2.2 x_t_open x_t_weight)) rfl ⟨Nat.le_of_ble_eq_true rfl, Nat.le_of_ble_eq_true rfl⟩ dX6_countIn_2 (fun H locs hP hD hS => ?_)
  refine lv_istore_n (lv' := [(3, .int r2.1), (0, .ref a_t), (1, .int p1), (2, .int p2)]) hx hb dX6_countIn_5 rfl hl (by decide) rfl (fun ls hl => ?_)
  refine lv_iload_n hx hb dX6_countIn_6 rfl (lv_at hl 3 rfl) ?_
  refine lv_iconst (v := (0 : Int32)) hx hb dX6_countIn_7 (by decide) ?_
  refine lv_aload_n hx hb dX6_countIn_8 rfl (lv_at hl 1 rfl) ?_
  refine gf_X6_89 X hP 0 rfl rfl dX6_countIn_9 ?_
  refine lv_iconst (v := (1 : Int32)) hx hb dX6_countIn_12 (by decide) ?_
  refine lv_isub hx hb dX6_countIn_13 ?_
  obtain ⟨r14, hc14, hf⟩ := bd_some hf
  refine cS_I X hA hP hD hS hl.1 (c_X6_in l E p2 (0 : Int32) (x_t_opens - (1 : Int32)) r14 hc14) 3 k_692 mw_X6_in hd_X6_in ⟨Nat.le_of_ble_eq_true rfl, Nat.le_of_ble_eq_true rfl⟩ [] [0, 1, 2, 3] [0, 1, 2, 3] rfl rfl (wr := [0, 1, 2, 3].filterMap (fun i => (wd_X6_countIn E a_t a_t_count a_t_open a_t_weight x_t_signs w_t_pad x_t_places w_t_page x_t_begins x_t_court x_t_allowed x_t_sights w_t_sight x_t_opens w_t_behind w_t_outs w_t_pack w_t_image w_t_isKept r2.2 x_t_open x_t_weight)[i]?)) rfl rfl rfl rfl rfl (Nat.le_of_ble_eq_true rfl) rfl (ws' := (wd_X6_countIn E a_t a_t_count a_t_open a_t_weight x_t_signs w_t_pad x_t_places w_t_page x_t_begins x_t_court x_t_allowed x_t_sights w_t_sight x_t_opens w_t_behind w_t_outs w_t_pack w_t_image w_t_isKept r2.2 x_t_open x_t_weight)) rfl ⟨Nat.le_of_ble_eq_true rfl, Nat.le_of_ble_eq_true rfl⟩ dX6_countIn_14 (fun H locs hP hD hS => ?_)
  refine lv_if_eq (tgt := 38) hx hb dX6_countIn_17 (by decide) (fun c_17 => ?_) (fun c_17 => ?_)
  · have hf := if_t c_17 hf
    refine lv_bipush (v := (-6 : Int32)) hx hb dX6_countIn_38 (by decide) ?_
    exact fin' _ _ hf 40 ls H locs dX6_countIn_40 rfl hP hD hS
  · have hf := if_f c_17 hf
    refine lv_iload_n hx hb dX6_countIn_20 rfl (lv_at hl 0 rfl) ?_
    refine lv_if_lt (tgt := 38) hx hb dX6_countIn_21 (by decide) (fun c_21 => ?_) (fun c_21 => ?_)
    · have hf := if_t c_21 hf
      refine lv_bipush (v := (-6 : Int32)) hx hb dX6_countIn_38 (by decide) ?_
      exact fin' _ _ hf 40 ls H locs dX6_countIn_40 rfl hP hD hS
    · have hf := if_f c_21 hf
      refine lv_aload_n hx hb dX6_countIn_24 rfl (lv_at hl 1 rfl) ?_
      refine gf_X6_35 X hP 0 rfl rfl dX6_countIn_25 ?_
      refine lv_aload_n hx hb dX6_countIn_28 rfl (lv_at hl 1 rfl) ?_
      refine gf_X6_38 X hP 0 rfl rfl dX6_countIn_29 ?_
      refine lv_iload_n hx hb dX6_countIn_32 rfl (lv_at hl 3 rfl) ?_
      obtain ⟨hi33, hf⟩ := ck_some hf
      refine r_iald X hP 2 rfl hi33 dX6_countIn_33 ?_
      obtain ⟨hi34, hf⟩ := ck_some hf
      refine r_iald X hP 1 rfl hi34 dX6_countIn_34 ?_
      refine lv_goto (tgt := 40) hx hb dX6_countIn_35 (by decide) ?_
      exact fin' _ _ hf 40 ls H locs dX6_countIn_40 rfl hP hD hS
abbrev wd_X6_write (E : EN) (a_t : Nat) (a_t_page : Nat) (a_t_count : Nat) (a_t_open : Nat) (a_t_weight : Nat) (x_t_signs : Int32) (w_t_pad : Value) (x_t_places : Int32) (x_t_begins : Int32) (x_t_court : Int32) (x_t_allowed : Int32) (x_t_sights : Int32) (w_t_sight : Value) (x_t_opens : Int32) (w_t_behind : Value) (w_t_outs : Value) (w_t_pack : Value) (w_t_image : Value) (w_t_isKept : Value) (x_t_page : Nat → Int32) (x_t_count : Nat → Int32) (x_t_open : Nat → Int32) (x_t_weight : Nat → Int32) : va_W := [(a_t, e_O 6 [.int x_t_signs, w_t_pad, .int x_t_places, .ref a_t_page, .int x_t_begins, .int x_t_court, .int x_t_allowed, .ref a_t_weight, .int x_t_sights, w_t_sight, .ref a_t_count, .int x_t_opens, .ref a_t_open, w_t_behind, w_t_outs, w_t_pack, w_t_image, w_t_isKept]), (a_t_page, e_I E 40 x_t_page), (a_t_count, e_I E 40 x_t_count), (a_t_open, e_I E 5 x_t_open), (a_t_weight, e_I E 11 x_t_weight)]
def f_X6_write_57 (p1 : Int32) (p2 : Int32) (p3 : Int32) (x_t_places : Int32) (x_t_begins : Int32) (x_t_allowed : Int32) (x_t_weight : Nat → Int32)  : Nat → Int32 → Int32 → Int32 → Int32 → (Nat → Int32) → (Nat → Int32) → Option (Int32 × Int32 × (Nat → Int32) × (Nat → Int32))
  | 0, _, _, _, _, _, _ => none
  | n_ + 1, v4, v5, v6, m_t_opens, m_t_count, m_t_open =>
    Option.bind (f_X6_codes m_t_opens) (fun r60 =>
    if r60 ≤ v6 then
      if p3 = (-1 : Int32) then
        some (v4, m_t_opens, m_t_count, m_t_open)
      else
        if 0 ≤ v5 then
          Option.bind (f_X6_countIn v5 p3 m_t_opens m_t_count m_t_open x_t_weight) (fun r142 =>
          some (r142.1, m_t_opens, r142.2, m_t_open))
        else
          some ((-6 : Int32), m_t_opens, m_t_count, m_t_open)
    else
      Option.bind (f_X6_writeIn v6 m_t_opens m_t_count m_t_open x_t_weight) (fun r69 =>
      if r69.1 < 0 then
        f_X6_write_57 p1 p2 p3 x_t_places x_t_begins x_t_allowed x_t_weight n_ v4 v5 (v6 + (1 : Int32)) m_t_opens r69.2 m_t_open
      else
        Option.bind (f_X6_isAllowed x_t_allowed m_t_opens r69.2 m_t_open) (fun r80 =>
        if r80 = 0 then
          f_X6_write_57 p1 p2 p3 x_t_places x_t_begins x_t_allowed x_t_weight n_ v4 v5 (v6 + (1 : Int32)) m_t_opens r69.2 m_t_open
        else
          Option.bind (f_X6_holds p1 p2 x_t_places x_t_begins r69.2) (fun r89 =>
          if r89 = 0 then
            f_X6_write_57 p1 p2 p3 x_t_places x_t_begins x_t_allowed x_t_weight n_ v4 v5 (v6 + (1 : Int32)) m_t_opens r69.2 m_t_open
          else
            if 0 ≤ v5 then
              f_X6_write_57 p1 p2 p3 x_t_places x_t_begins x_t_allowed x_t_weight n_ (v4 + (1 : Int32)) v5 (v6 + (1 : Int32)) m_t_opens r69.2 m_t_open
            else
              f_X6_write_57 p1 p2 p3 x_t_places x_t_begins x_t_allowed x_t_weight n_ (v4 + (1 : Int32)) v6 (v6 + (1 : Int32)) m_t_opens r69.2 m_t_open))))
def f_X6_write_15 (p1 : Int32) (p2 : Int32) (p3 : Int32) (x_t_places : Int32) (x_t_begins : Int32) (x_t_court : Int32) (x_t_allowed : Int32) (x_t_page : Nat → Int32) (x_t_weight : Nat → Int32)  (m_t_opens : Int32) (m_t_count : Nat → Int32) (m_t_open : Nat → Int32) : Option (Int32 × Int32 × (Nat → Int32) × (Nat → Int32)) :=
  Option.bind (f_X6_in p1 (0 : Int32) (3 : Int32)) (fun r18 =>
  if r18 = 0 then
    some ((-2 : Int32), m_t_opens, m_t_count, m_t_open)
  else
    Option.bind (f_X6_many (63 : Int32) x_t_places x_t_page) (fun r30 =>
    if r30 ≤ 0 then
      Option.bind (f_X6_lay x_t_court x_t_places m_t_count x_t_page m_t_open) (fun r44 =>
      f_X6_write_57 p1 p2 p3 x_t_places x_t_begins x_t_allowed x_t_weight FU (0 : Int32) (-6 : Int32) (0 : Int32) r44.1 r44.2.1 r44.2.2)
    else
      some ((-3 : Int32), m_t_opens, m_t_count, m_t_open)))
def f_X6_write (p1 : Int32) (p2 : Int32) (p3 : Int32) (x_t_places : Int32) (x_t_begins : Int32) (x_t_court : Int32) (x_t_allowed : Int32) (x_t_opens : Int32) (x_t_page : Nat → Int32) (x_t_count : Nat → Int32) (x_t_open : Nat → Int32) (x_t_weight : Nat → Int32) : Option (Int32 × Int32 × (Nat → Int32) × (Nat → Int32)) :=
  if p1 = (3 : Int32) then
    Option.bind (f_X6_isPlace p2 x_t_places) (fun r7 =>
    if r7 = 0 then
      some ((-1 : Int32), x_t_opens, x_t_count, x_t_open)
    else
      f_X6_write_15 p1 p2 p3 x_t_places x_t_begins x_t_court x_t_allowed x_t_page x_t_weight x_t_opens x_t_count x_t_open)
  else
    f_X6_write_15 p1 p2 p3 x_t_places x_t_begins x_t_court x_t_allowed x_t_page x_t_weight x_t_opens x_t_count x_t_open
set_option maxHeartbeats 4000000 in
set_option maxRecDepth 100000 in
theorem c_X6_write (l : Launch) (E : EN) (a_t a_t_page a_t_count a_t_open a_t_weight : Nat) (x_t_signs : Int32) (w_t_pad : Value) (x_t_places : Int32) (x_t_begins : Int32) (x_t_court : Int32) (x_t_allowed : Int32) (x_t_sights : Int32) (w_t_sight : Value) (x_t_opens : Int32) (w_t_behind : Value) (w_t_outs : Value) (w_t_pack : Value) (w_t_image : Value) (w_t_isKept : Value) (x_t_page : Nat → Int32) (x_t_count : Nat → Int32) (x_t_open : Nat → Int32) (x_t_weight : Nat → Int32) (p1 : Int32) (p2 : Int32) (p3 : Int32) (res : Int32 × Int32 × (Nat → Int32) × (Nat → Int32)) (hf : f_X6_write p1 p2 p3 x_t_places x_t_begins x_t_court x_t_allowed x_t_opens x_t_page x_t_count x_t_open x_t_weight = some res) : CtI l yX6_write cX6_write 8 .int 3 71 E [.ref a_t, .int p1, .int p2, .int p3] (wd_X6_write E a_t a_t_page a_t_count a_t_open a_t_weight x_t_signs w_t_pad x_t_places x_t_begins x_t_court x_t_allowed x_t_sights w_t_sight x_t_opens w_t_behind w_t_outs w_t_pack w_t_image w_t_isKept x_t_page x_t_count x_t_open x_t_weight) (wd_X6_write E a_t a_t_page a_t_count a_t_open a_t_weight x_t_signs w_t_pad x_t_places x_t_begins x_t_court x_t_allowed x_t_sights w_t_sight res.2.1 w_t_behind w_t_outs w_t_pack w_t_image w_t_isKept x_t_page res.2.2.1 res.2.2.2 x_t_weight) res.1 := by
  refine CtI.of RX6 (by decide) rfl (Nat.le_of_ble_eq_true rfl) ?_
  intro p e s m below meth c A Q ls X hA hP hD hl fin
  have hx := X.1
  have hb := X.2.1
  have hl : lv_has ls 8 [(0, .ref a_t), (1, .int p1), (2, .int p2), (3, .int p3)] := hl
  have fin' : ∀ (fr0 : Int32) (fr1 : Int32) (fr2 : (Nat → Int32)) (fr3 : (Nat → Int32)), some (fr0, fr1, fr2, fr3) = some res → ∀ (pc : Nat) (ls : Array Slot) (H : Heap) (locs : List Loc), decode cX6_write pc = .ok (.ireturn, 1) → narrow .int (.int fr0) = .int fr0 → va_P E.1 vwCl (wd_X6_write E a_t a_t_page a_t_count a_t_open a_t_weight x_t_signs w_t_pad x_t_places x_t_begins x_t_court x_t_allowed x_t_sights w_t_sight fr1 w_t_behind w_t_outs w_t_pack w_t_image w_t_isKept x_t_page fr2 fr3 x_t_weight) H → va_D A (wd_X6_write E a_t a_t_page a_t_count a_t_open a_t_weight x_t_signs w_t_pad x_t_places x_t_begins x_t_court x_t_allowed x_t_sights w_t_sight fr1 w_t_behind w_t_outs w_t_pack w_t_image w_t_isKept x_t_page fr2 fr3 x_t_weight) → va_S A s.heap H locs → W p l e (rmm 3 71) s m ([.ref a_t, .int p1, .int p2, .int p3] : List Value).toArray below meth c H locs 0 0 Q (F0 m pc ls [.int fr0]) := by
    intro fr0 fr1 fr2 fr3 he
    cases he
    exact fin
  have L57 : ∀ (n57 : Nat) (v4 : Int32) (v5 : Int32) (v6 : Int32) (m_t_opens : Int32) (m_t_count : Nat → Int32) (m_t_open : Nat → Int32), f_X6_write_57 p1 p2 p3 x_t_places x_t_begins x_t_allowed x_t_weight n57 v4 v5 v6 m_t_opens m_t_count m_t_open = some res → ∀ (H : Heap) (locs : List Loc) (ls : Array Slot), va_P E.1 vwCl (wd_X6_write E a_t a_t_page a_t_count a_t_open a_t_weight x_t_signs w_t_pad x_t_places x_t_begins x_t_court x_t_allowed x_t_sights w_t_sight m_t_opens w_t_behind w_t_outs w_t_pack w_t_image w_t_isKept x_t_page m_t_count m_t_open x_t_weight) H → va_D A (wd_X6_write E a_t a_t_page a_t_count a_t_open a_t_weight x_t_signs w_t_pad x_t_places x_t_begins x_t_court x_t_allowed x_t_sights w_t_sight m_t_opens w_t_behind w_t_outs w_t_pack w_t_image w_t_isKept x_t_page m_t_count m_t_open x_t_weight) → va_S A s.heap H locs → lv_has ls 8 [(0, .ref a_t), (1, .int p1), (2, .int p2), (3, .int p3), (4, .int v4), (5, .int v5), (6, .int v6)] → W p l e (rmm 3 71) s m ([.ref a_t, .int p1, .int p2, .int p3] : List Value).toArray below meth c H locs 0 0 Q (F0 m 57 ls []) := by
    intro n57
    induction n57 with
    | zero => intro v4 v5 v6 m_t_opens m_t_count m_t_open hf; rw [f_X6_write_57] at hf; cases hf
    | succ n57 ih57 =>
      intro v4 v5 v6 m_t_opens m_t_count m_t_open hf H locs ls hP hD hS hl
      rw [f_X6_write_57] at hf
      refine lv_iload hx hb dX6_write_57 (lv_at hl 6 rfl) ?_
      refine lv_aload_n hx hb dX6_write_59 rfl (lv_at hl 0 rfl) ?_
      obtain ⟨r60, hc60, hf⟩ := bd_some hf
      refine cV_I X hA hP hD hS hl.1 (c_X6_codes l E a_t x_t_signs w_t_pad x_t_places (.ref a_t_page) x_t_begins x_t_court x_t_allowed (.ref a_t_weight) x_t_sights w_t_sight (.ref a_t_count) m_t_opens (.ref a_t_open) w_t_behind w_t_outs w_t_pack w_t_image w_t_isKept r60 hc60) 0 k_836 mw_X6_codes hd_X6_codes ⟨Nat.le_of_ble_eq_true rfl, Nat.le_of_ble_eq_true rfl⟩ [0] [1, 2, 3, 4] [4, 0, 1, 2, 3] rfl rfl (wr := [1, 2, 3, 4].filterMap (fun i => (wd_X6_write E a_t a_t_page a_t_count a_t_open a_t_weight x_t_signs w_t_pad x_t_places x_t_begins x_t_court x_t_allowed x_t_sights w_t_sight m_t_opens w_t_behind w_t_outs w_t_pack w_t_image w_t_isKept x_t_page m_t_count m_t_open x_t_weight)[i]?)) rfl rfl rfl 6 0 rfl rfl rfl rfl rfl (Nat.le_of_ble_eq_true rfl) rfl (ws' := (wd_X6_write E a_t a_t_page a_t_count a_t_open a_t_weight x_t_signs w_t_pad x_t_places x_t_begins x_t_court x_t_allowed x_t_sights w_t_sight m_t_opens w_t_behind w_t_outs w_t_pack w_t_image w_t_isKept x_t_page m_t_count m_t_open x_t_weight)) rfl ⟨Nat.le_of_ble_eq_true rfl, Nat.le_of_ble_eq_true rfl⟩ dX6_write_60 (fun H locs hP hD hS => ?_)
      refine lv_icmp_ge (tgt := 118) hx hb dX6_write_63 (by decide) (fun c_63 => ?_) (fun c_63 => ?_)
      · have hf := if_t c_63 hf
        refine lv_iload_n hx hb dX6_write_118 rfl (lv_at hl 3 rfl) ?_
        refine lv_iconst (v := (-1 : Int32)) hx hb dX6_write_119 (by decide) ?_
        refine lv_icmp_ne (tgt := 128) hx hb dX6_write_120 (by decide) (fun c_120 => ?_) (fun c_120 => ?_)
        · have hf := if_f c_120 hf
          refine lv_iload hx hb dX6_write_128 (lv_at hl 5 rfl) ?_
          refine lv_if_ge (tgt := 138) hx hb dX6_write_130 (by decide) (fun c_130 => ?_) (fun c_130 => ?_)
          · have hf := if_t c_130 hf
            refine lv_aload_n hx hb dX6_write_138 rfl (lv_at hl 0 rfl) ?_
            refine lv_iload hx hb dX6_write_139 (lv_at hl 5 rfl) ?_
            refine lv_iload_n hx hb dX6_write_141 rfl (lv_at hl 3 rfl) ?_
            obtain ⟨r142, hc142, hf⟩ := bd_some hf
            refine cV_I X hA hP hD hS hl.1 (c_X6_countIn l E a_t a_t_count a_t_open a_t_weight x_t_signs w_t_pad x_t_places (.ref a_t_page) x_t_begins x_t_court x_t_allowed x_t_sights w_t_sight m_t_opens w_t_behind w_t_outs w_t_pack w_t_image w_t_isKept m_t_count m_t_open x_t_weight v5 p3 r142 hc142) 2 k_871 mw_X6_countIn hd_X6_countIn ⟨Nat.le_of_ble_eq_true rfl, Nat.le_of_ble_eq_true rfl⟩ [0, 2, 3, 4] [1] [1, 0, 2, 3, 4] rfl rfl (wr := [1].filterMap (fun i => (wd_X6_write E a_t a_t_page a_t_count a_t_open a_t_weight x_t_signs w_t_pad x_t_places x_t_begins x_t_court x_t_allowed x_t_sights w_t_sight m_t_opens w_t_behind w_t_outs w_t_pack w_t_image w_t_isKept x_t_page m_t_count m_t_open x_t_weight)[i]?)) rfl rfl rfl 6 0 rfl rfl rfl rfl rfl (Nat.le_of_ble_eq_true rfl) rfl (ws' := (wd_X6_write E a_t a_t_page a_t_count a_t_open a_t_weight x_t_signs w_t_pad x_t_places x_t_begins x_t_court x_t_allowed x_t_sights w_t_sight m_t_opens w_t_behind w_t_outs w_t_pack w_t_image w_t_isKept x_t_page r142.2 m_t_open x_t_weight)) rfl ⟨Nat.le_of_ble_eq_true rfl, Nat.le_of_ble_eq_true rfl⟩ dX6_write_142 (fun H locs hP hD hS => ?_)
            exact fin' _ _ _ _ hf 145 ls H locs dX6_write_145 rfl hP hD hS
          · have hf := if_f c_130 hf
            refine lv_bipush (v := (-6 : Int32)) hx hb dX6_write_133 (by decide) ?_
            refine lv_goto (tgt := 145) hx hb dX6_write_135 (by decide) ?_
            exact fin' _ _ _ _ hf 145 ls H locs dX6_write_145 rfl hP hD hS
        · have hf := if_t c_120 hf
          refine lv_iload hx hb dX6_write_123 (lv_at hl 4 rfl) ?_
          refine lv_goto (tgt := 145) hx hb dX6_write_125 (by decide) ?_
          exact fin' _ _ _ _ hf 145 ls H locs dX6_write_145 rfl hP hD hS
      · have hf := if_f c_63 hf
        refine lv_aload_n hx hb dX6_write_66 rfl (lv_at hl 0 rfl) ?_
        refine lv_iload hx hb dX6_write_67 (lv_at hl 6 rfl) ?_
        obtain ⟨r69, hc69, hf⟩ := bd_some hf
        refine cV_I X hA hP hD hS hl.1 (c_X6_writeIn l E a_t a_t_count a_t_open a_t_weight x_t_signs w_t_pad x_t_places (.ref a_t_page) x_t_begins x_t_court x_t_allowed x_t_sights w_t_sight m_t_opens w_t_behind w_t_outs w_t_pack w_t_image w_t_isKept m_t_count m_t_open x_t_weight v6 r69 hc69) 1 k_840 mw_X6_writeIn hd_X6_writeIn ⟨Nat.le_of_ble_eq_true rfl, Nat.le_of_ble_eq_true rfl⟩ [0, 2, 3, 4] [1] [1, 0, 2, 3, 4] rfl rfl (wr := [1].filterMap (fun i => (wd_X6_write E a_t a_t_page a_t_count a_t_open a_t_weight x_t_signs w_t_pad x_t_places x_t_begins x_t_court x_t_allowed x_t_sights w_t_sight m_t_opens w_t_behind w_t_outs w_t_pack w_t_image w_t_isKept x_t_page m_t_count m_t_open x_t_weight)[i]?)) rfl rfl rfl 6 0 rfl rfl rfl rfl rfl (Nat.le_of_ble_eq_true rfl) rfl (ws' := (wd_X6_write E a_t a_t_page a_t_count a_t_open a_t_weight x_t_signs w_t_pad x_t_places x_t_begins x_t_court x_t_allowed x_t_sights w_t_sight m_t_opens w_t_behind w_t_outs w_t_pack w_t_image w_t_isKept x_t_page r69.2 m_t_open x_t_weight)) rfl ⟨Nat.le_of_ble_eq_true rfl, Nat.le_of_ble_eq_true rfl⟩ dX6_write_69 (fun H locs hP hD hS => ?_)
        refine lv_istore (lv' := [(7, .int r69.1), (0, .ref a_t), (1, .int p1), (2, .int p2), (3, .int p3), (4, .int v4), (5, .int v5), (6, .int v6)]) hx hb dX6_write_72 hl (by decide) rfl (fun ls hl => ?_)
        refine lv_iload hx hb dX6_write_74 (lv_at hl 0 rfl) ?_
        refine lv_if_lt (tgt := 112) hx hb dX6_write_76 (by decide) (fun c_76 => ?_) (fun c_76 => ?_)
        · have hf := if_t c_76 hf
          refine lv_iinc (v := (v6 + (1 : Int32))) (lv' := [(6, .int (v6 + (1 : Int32))), (7, .int r69.1), (0, .ref a_t), (1, .int p1), (2, .int p2), (3, .int p3), (4, .int v4), (5, .int v5)]) hx hb dX6_write_112 hl (k := 7) rfl rfl (by decide) rfl (fun ls hl => ?_)
          refine lv_goto (tgt := 57) hx hb dX6_write_115 (by decide) ?_
          exact ih57 v4 v5 (v6 + (1 : Int32)) m_t_opens r69.2 m_t_open hf H locs ls hP hD hS (lv_sub hl [2, 3, 4, 5, 6, 7, 0] rfl)
        · have hf := if_f c_76 hf
          refine lv_aload_n hx hb dX6_write_79 rfl (lv_at hl 1 rfl) ?_
          obtain ⟨r80, hc80, hf⟩ := bd_some hf
          refine cV_I X hA hP hD hS hl.1 (c_X6_isAllowed l E a_t a_t_count a_t_open x_t_signs w_t_pad x_t_places (.ref a_t_page) x_t_begins x_t_court x_t_allowed (.ref a_t_weight) x_t_sights w_t_sight m_t_opens w_t_behind w_t_outs w_t_pack w_t_image w_t_isKept r69.2 m_t_open r80 hc80) 0 k_859 mw_X6_isAllowed hd_X6_isAllowed ⟨Nat.le_of_ble_eq_true rfl, Nat.le_of_ble_eq_true rfl⟩ [0, 2, 3] [1, 4] [2, 0, 3, 4, 1] rfl rfl (wr := [1, 4].filterMap (fun i => (wd_X6_write E a_t a_t_page a_t_count a_t_open a_t_weight x_t_signs w_t_pad x_t_places x_t_begins x_t_court x_t_allowed x_t_sights w_t_sight m_t_opens w_t_behind w_t_outs w_t_pack w_t_image w_t_isKept x_t_page r69.2 m_t_open x_t_weight)[i]?)) rfl rfl rfl 6 0 rfl rfl rfl rfl rfl (Nat.le_of_ble_eq_true rfl) rfl (ws' := (wd_X6_write E a_t a_t_page a_t_count a_t_open a_t_weight x_t_signs w_t_pad x_t_places x_t_begins x_t_court x_t_allowed x_t_sights w_t_sight m_t_opens w_t_behind w_t_outs w_t_pack w_t_image w_t_isKept x_t_page r69.2 m_t_open x_t_weight)) rfl ⟨Nat.le_of_ble_eq_true rfl, Nat.le_of_ble_eq_true rfl⟩ dX6_write_80 (fun H locs hP hD hS => ?_)
          refine lv_if_eq (tgt := 112) hx hb dX6_write_83 (by decide) (fun c_83 => ?_) (fun c_83 => ?_)
          · have hf := if_t c_83 hf
            refine lv_iinc (v := (v6 + (1 : Int32))) (lv' := [(6, .int (v6 + (1 : Int32))), (7, .int r69.1), (0, .ref a_t), (1, .int p1), (2, .int p2), (3, .int p3), (4, .int v4), (5, .int v5)]) hx hb dX6_write_112 hl (k := 7) rfl rfl (by decide) rfl (fun ls hl => ?_)
            refine lv_goto (tgt := 57) hx hb dX6_write_115 (by decide) ?_
            exact ih57 v4 v5 (v6 + (1 : Int32)) m_t_opens r69.2 m_t_open hf H locs ls hP hD hS (lv_sub hl [2, 3, 4, 5, 6, 7, 0] rfl)
          · have hf := if_f c_83 hf
            refine lv_aload_n hx hb dX6_write_86 rfl (lv_at hl 1 rfl) ?_
            refine lv_iload_n hx hb dX6_write_87 rfl (lv_at hl 2 rfl) ?_
            refine lv_iload_n hx hb dX6_write_88 rfl (lv_at hl 3 rfl) ?_
            obtain ⟨r89, hc89, hf⟩ := bd_some hf
            refine cV_I X hA hP hD hS hl.1 (c_X6_holds l E a_t a_t_count x_t_signs w_t_pad x_t_places (.ref a_t_page) x_t_begins x_t_court x_t_allowed (.ref a_t_weight) x_t_sights w_t_sight m_t_opens (.ref a_t_open) w_t_behind w_t_outs w_t_pack w_t_image w_t_isKept r69.2 p1 p2 r89 hc89) 2 k_863 mw_X6_holds hd_X6_holds ⟨Nat.le_of_ble_eq_true rfl, Nat.le_of_ble_eq_true rfl⟩ [0, 2] [1, 3, 4] [3, 0, 4, 1, 2] rfl rfl (wr := [1, 3, 4].filterMap (fun i => (wd_X6_write E a_t a_t_page a_t_count a_t_open a_t_weight x_t_signs w_t_pad x_t_places x_t_begins x_t_court x_t_allowed x_t_sights w_t_sight m_t_opens w_t_behind w_t_outs w_t_pack w_t_image w_t_isKept x_t_page r69.2 m_t_open x_t_weight)[i]?)) rfl rfl rfl 6 0 rfl rfl rfl rfl rfl (Nat.le_of_ble_eq_true rfl) rfl (ws' := (wd_X6_write E a_t a_t_page a_t_count a_t_open a_t_weight x_t_signs w_t_pad x_t_places x_t_begins x_t_court x_t_allowed x_t_sights w_t_sight m_t_opens w_t_behind w_t_outs w_t_pack w_t_image w_t_isKept x_t_page r69.2 m_t_open x_t_weight)) rfl ⟨Nat.le_of_ble_eq_true rfl, Nat.le_of_ble_eq_true rfl⟩ dX6_write_89 (fun H locs hP hD hS => ?_)
            refine lv_if_eq (tgt := 112) hx hb dX6_write_92 (by decide) (fun c_92 => ?_) (fun c_92 => ?_)
            · have hf := if_t c_92 hf
              refine lv_iinc (v := (v6 + (1 : Int32))) (lv' := [(6, .int (v6 + (1 : Int32))), (7, .int r69.1), (0, .ref a_t), (1, .int p1), (2, .int p2), (3, .int p3), (4, .int v4), (5, .int v5)]) hx hb dX6_write_112 hl (k := 7) rfl rfl (by decide) rfl (fun ls hl => ?_)
              refine lv_goto (tgt := 57) hx hb dX6_write_115 (by decide) ?_
              exact ih57 v4 v5 (v6 + (1 : Int32)) m_t_opens r69.2 m_t_open hf H locs ls hP hD hS (lv_sub hl [2, 3, 4, 5, 6, 7, 0] rfl)
            · have hf := if_f c_92 hf
              refine lv_iload hx hb dX6_write_95 (lv_at hl 6 rfl) ?_
              refine lv_if_ge (tgt := 105) hx hb dX6_write_97 (by decide) (fun c_97 => ?_) (fun c_97 => ?_)
              · have hf := if_t c_97 hf
                refine lv_iload hx hb dX6_write_105 (lv_at hl 6 rfl) ?_
                refine lv_istore (lv' := [(5, .int v5), (7, .int r69.1), (0, .ref a_t), (1, .int p1), (2, .int p2), (3, .int p3), (4, .int v4), (6, .int v6)]) hx hb dX6_write_107 hl (by decide) rfl (fun ls hl => ?_)
                refine lv_iinc (v := (v4 + (1 : Int32))) (lv' := [(4, .int (v4 + (1 : Int32))), (5, .int v5), (7, .int r69.1), (0, .ref a_t), (1, .int p1), (2, .int p2), (3, .int p3), (6, .int v6)]) hx hb dX6_write_109 hl (k := 6) rfl rfl (by decide) rfl (fun ls hl => ?_)
                refine lv_iinc (v := (v6 + (1 : Int32))) (lv' := [(6, .int (v6 + (1 : Int32))), (4, .int (v4 + (1 : Int32))), (5, .int v5), (7, .int r69.1), (0, .ref a_t), (1, .int p1), (2, .int p2), (3, .int p3)]) hx hb dX6_write_112 hl (k := 7) rfl rfl (by decide) rfl (fun ls hl => ?_)
                refine lv_goto (tgt := 57) hx hb dX6_write_115 (by decide) ?_
                exact ih57 (v4 + (1 : Int32)) v5 (v6 + (1 : Int32)) m_t_opens r69.2 m_t_open hf H locs ls hP hD hS (lv_sub hl [4, 5, 6, 7, 1, 2, 0] rfl)
              · have hf := if_f c_97 hf
                refine lv_iload hx hb dX6_write_100 (lv_at hl 7 rfl) ?_
                refine lv_goto (tgt := 107) hx hb dX6_write_102 (by decide) ?_
                refine lv_istore (lv' := [(5, .int v6), (7, .int r69.1), (0, .ref a_t), (1, .int p1), (2, .int p2), (3, .int p3), (4, .int v4), (6, .int v6)]) hx hb dX6_write_107 hl (by decide) rfl (fun ls hl => ?_)
                refine lv_iinc (v := (v4 + (1 : Int32))) (lv' := [(4, .int (v4 + (1 : Int32))), (5, .int v6), (7, .int r69.1), (0, .ref a_t), (1, .int p1), (2, .int p2), (3, .int p3), (6, .int v6)]) hx hb dX6_write_109 hl (k := 6) rfl rfl (by decide) rfl (fun ls hl => ?_)
                refine lv_iinc (v := (v6 + (1 : Int32))) (lv' := [(6, .int (v6 + (1 : Int32))), (4, .int (v4 + (1 : Int32))), (5, .int v6), (7, .int r69.1), (0, .ref a_t), (1, .int p1), (2, .int p2), (3, .int p3)]) hx hb dX6_write_112 hl (k := 7) rfl rfl (by decide) rfl (fun ls hl => ?_)
                refine lv_goto (tgt := 57) hx hb dX6_write_115 (by decide) ?_
                exact ih57 (v4 + (1 : Int32)) v6 (v6 + (1 : Int32)) m_t_opens r69.2 m_t_open hf H locs ls hP hD hS (lv_sub hl [4, 5, 6, 7, 1, 2, 0] rfl)
  have L15 : ∀ (m_t_opens : Int32) (m_t_count : Nat → Int32) (m_t_open : Nat → Int32), f_X6_write_15 p1 p2 p3 x_t_places x_t_begins x_t_court x_t_allowed x_t_page x_t_weight m_t_opens m_t_count m_t_open = some res → ∀ (H : Heap) (locs : List Loc) (ls : Array Slot), va_P E.1 vwCl (wd_X6_write E a_t a_t_page a_t_count a_t_open a_t_weight x_t_signs w_t_pad x_t_places x_t_begins x_t_court x_t_allowed x_t_sights w_t_sight m_t_opens w_t_behind w_t_outs w_t_pack w_t_image w_t_isKept x_t_page m_t_count m_t_open x_t_weight) H → va_D A (wd_X6_write E a_t a_t_page a_t_count a_t_open a_t_weight x_t_signs w_t_pad x_t_places x_t_begins x_t_court x_t_allowed x_t_sights w_t_sight m_t_opens w_t_behind w_t_outs w_t_pack w_t_image w_t_isKept x_t_page m_t_count m_t_open x_t_weight) → va_S A s.heap H locs → lv_has ls 8 [(0, .ref a_t), (1, .int p1), (2, .int p2), (3, .int p3)] → W p l e (rmm 3 71) s m ([.ref a_t, .int p1, .int p2, .int p3] : List Value).toArray below meth c H locs 0 0 Q (F0 m 15 ls []) := by
    intro m_t_opens m_t_count m_t_open hf H locs ls hP hD hS hl
    rw [f_X6_write_15] at hf
    refine lv_iload_n hx hb dX6_write_15 rfl (lv_at hl 1 rfl) ?_
    refine lv_iconst (v := (0 : Int32)) hx hb dX6_write_16 (by decide) ?_
    refine lv_iconst (v := (3 : Int32)) hx hb dX6_write_17 (by decide) ?_
    obtain ⟨r18, hc18, hf⟩ := bd_some hf
    refine cS_I X hA hP hD hS hl.1 (c_X6_in l E p1 (0 : Int32) (3 : Int32) r18 hc18) 3 k_692 mw_X6_in hd_X6_in ⟨Nat.le_of_ble_eq_true rfl, Nat.le_of_ble_eq_true rfl⟩ [] [0, 1, 2, 3, 4] [0, 1, 2, 3, 4] rfl rfl (wr := [0, 1, 2, 3, 4].filterMap (fun i => (wd_X6_write E a_t a_t_page a_t_count a_t_open a_t_weight x_t_signs w_t_pad x_t_places x_t_begins x_t_court x_t_allowed x_t_sights w_t_sight m_t_opens w_t_behind w_t_outs w_t_pack w_t_image w_t_isKept x_t_page m_t_count m_t_open x_t_weight)[i]?)) rfl rfl rfl rfl rfl (Nat.le_of_ble_eq_true rfl) rfl (ws' := (wd_X6_write E a_t a_t_page a_t_count a_t_open a_t_weight x_t_signs w_t_pad x_t_places x_t_begins x_t_court x_t_allowed x_t_sights w_t_sight m_t_opens w_t_behind w_t_outs w_t_pack w_t_image w_t_isKept x_t_page m_t_count m_t_open x_t_weight)) rfl ⟨Nat.le_of_ble_eq_true rfl, Nat.le_of_ble_eq_true rfl⟩ dX6_write_18 (fun H locs hP hD hS => ?_)
    refine lv_if_ne (tgt := 27) hx hb dX6_write_21 (by decide) (fun c_21 => ?_) (fun c_21 => ?_)
    · have hf := if_f c_21 hf
      refine lv_aload_n hx hb dX6_write_27 rfl (lv_at hl 0 rfl) ?_
      refine lv_bipush (v := (63 : Int32)) hx hb dX6_write_28 (by decide) ?_
      obtain ⟨r30, hc30, hf⟩ := bd_some hf
      refine cV_I X hA hP hD hS hl.1 (c_X6_many l E a_t a_t_page x_t_signs w_t_pad x_t_places x_t_begins x_t_court x_t_allowed (.ref a_t_weight) x_t_sights w_t_sight (.ref a_t_count) m_t_opens (.ref a_t_open) w_t_behind w_t_outs w_t_pack w_t_image w_t_isKept x_t_page (63 : Int32) r30 hc30) 1 k_753 mw_X6_many hd_X6_many ⟨Nat.le_of_ble_eq_true rfl, Nat.le_of_ble_eq_true rfl⟩ [0, 1] [2, 3, 4] [3, 4, 0, 1, 2] rfl rfl (wr := [2, 3, 4].filterMap (fun i => (wd_X6_write E a_t a_t_page a_t_count a_t_open a_t_weight x_t_signs w_t_pad x_t_places x_t_begins x_t_court x_t_allowed x_t_sights w_t_sight m_t_opens w_t_behind w_t_outs w_t_pack w_t_image w_t_isKept x_t_page m_t_count m_t_open x_t_weight)[i]?)) rfl rfl rfl 6 0 rfl rfl rfl rfl rfl (Nat.le_of_ble_eq_true rfl) rfl (ws' := (wd_X6_write E a_t a_t_page a_t_count a_t_open a_t_weight x_t_signs w_t_pad x_t_places x_t_begins x_t_court x_t_allowed x_t_sights w_t_sight m_t_opens w_t_behind w_t_outs w_t_pack w_t_image w_t_isKept x_t_page m_t_count m_t_open x_t_weight)) rfl ⟨Nat.le_of_ble_eq_true rfl, Nat.le_of_ble_eq_true rfl⟩ dX6_write_30 (fun H locs hP hD hS => ?_)
      refine lv_if_le (tgt := 39) hx hb dX6_write_33 (by decide) (fun c_33 => ?_) (fun c_33 => ?_)
      · have hf := if_t c_33 hf
        refine lv_aload_n hx hb dX6_write_39 rfl (lv_at hl 0 rfl) ?_
        refine lv_aload_n hx hb dX6_write_40 rfl (lv_at hl 0 rfl) ?_
        refine gf_X6_23 X hP 0 rfl rfl dX6_write_41 ?_
        obtain ⟨r44, hc44, hf⟩ := bd_some hf
        refine cV_V X hA hP hD hS hl.1 (c_X6_lay l E a_t a_t_count a_t_page a_t_open x_t_signs w_t_pad x_t_places x_t_begins x_t_court x_t_allowed (.ref a_t_weight) x_t_sights w_t_sight m_t_opens w_t_behind w_t_outs w_t_pack w_t_image w_t_isKept m_t_count x_t_page m_t_open x_t_court r44 hc44) 1 k_757 mw_X6_lay hd_X6_lay ⟨Nat.le_of_ble_eq_true rfl, Nat.le_of_ble_eq_true rfl⟩ [0, 2, 1, 3] [4] [1, 3, 2, 4, 0] rfl rfl (wr := [4].filterMap (fun i => (wd_X6_write E a_t a_t_page a_t_count a_t_open a_t_weight x_t_signs w_t_pad x_t_places x_t_begins x_t_court x_t_allowed x_t_sights w_t_sight m_t_opens w_t_behind w_t_outs w_t_pack w_t_image w_t_isKept x_t_page m_t_count m_t_open x_t_weight)[i]?)) rfl rfl rfl 6 0 rfl rfl rfl rfl rfl (Nat.le_of_ble_eq_true rfl) rfl (ws' := (wd_X6_write E a_t a_t_page a_t_count a_t_open a_t_weight x_t_signs w_t_pad x_t_places x_t_begins x_t_court x_t_allowed x_t_sights w_t_sight r44.1 w_t_behind w_t_outs w_t_pack w_t_image w_t_isKept x_t_page r44.2.1 r44.2.2 x_t_weight)) rfl ⟨Nat.le_of_ble_eq_true rfl, Nat.le_of_ble_eq_true rfl⟩ dX6_write_44 (fun H locs hP hD hS => ?_)
        refine lv_iconst (v := (0 : Int32)) hx hb dX6_write_47 (by decide) ?_
        refine lv_istore (lv' := [(4, .int (0 : Int32)), (0, .ref a_t), (1, .int p1), (2, .int p2), (3, .int p3)]) hx hb dX6_write_48 hl (by decide) rfl (fun ls hl => ?_)
        refine lv_bipush (v := (-6 : Int32)) hx hb dX6_write_50 (by decide) ?_
        refine lv_istore (lv' := [(5, .int (-6 : Int32)), (4, .int (0 : Int32)), (0, .ref a_t), (1, .int p1), (2, .int p2), (3, .int p3)]) hx hb dX6_write_52 hl (by decide) rfl (fun ls hl => ?_)
        refine lv_iconst (v := (0 : Int32)) hx hb dX6_write_54 (by decide) ?_
        refine lv_istore (lv' := [(6, .int (0 : Int32)), (5, .int (-6 : Int32)), (4, .int (0 : Int32)), (0, .ref a_t), (1, .int p1), (2, .int p2), (3, .int p3)]) hx hb dX6_write_55 hl (by decide) rfl (fun ls hl => ?_)
        exact L57 FU (0 : Int32) (-6 : Int32) (0 : Int32) r44.1 r44.2.1 r44.2.2 hf H locs ls hP hD hS (lv_sub hl [3, 4, 5, 6, 2, 1, 0] rfl)
      · have hf := if_f c_33 hf
        refine lv_bipush (v := (-3 : Int32)) hx hb dX6_write_36 (by decide) ?_
        exact fin' _ _ _ _ hf 38 ls H locs dX6_write_38 rfl hP hD hS
    · have hf := if_t c_21 hf
      refine lv_bipush (v := (-2 : Int32)) hx hb dX6_write_24 (by decide) ?_
      exact fin' _ _ _ _ hf 26 ls H locs dX6_write_26 rfl hP hD hS
  have hS : va_S A s.heap s.heap [] := va_S.rf
  obtain ⟨H, hH9⟩ : ∃ z, z = s.heap := ⟨_, rfl⟩
  obtain ⟨locs, hL9⟩ : ∃ z : List Loc, z = [] := ⟨_, rfl⟩
  rw [← hL9]
  rw [← hL9] at hS
  have hP : va_P E.1 vwCl (wd_X6_write E a_t a_t_page a_t_count a_t_open a_t_weight x_t_signs w_t_pad x_t_places x_t_begins x_t_court x_t_allowed x_t_sights w_t_sight x_t_opens w_t_behind w_t_outs w_t_pack w_t_image w_t_isKept x_t_page x_t_count x_t_open x_t_weight) H := by rw [hH9]; exact hP
  have hS : va_S A s.heap H locs := by rw [hH9]; exact hS
  suffices hgoal : W p l e (rmm 3 71) s m ([.ref a_t, .int p1, .int p2, .int p3] : List Value).toArray below meth c H locs 0 0 Q (F0 m 0 ls []) by rw [hH9] at hgoal; exact hgoal
  rw [f_X6_write] at hf
  refine lv_iload_n hx hb dX6_write_0 rfl (lv_at hl 1 rfl) ?_
  refine lv_iconst (v := (3 : Int32)) hx hb dX6_write_1 (by decide) ?_
  refine lv_icmp_ne (tgt := 15) hx hb dX6_write_2 (by decide) (fun c_2 => ?_) (fun c_2 => ?_)
  · have hf := if_f c_2 hf
    exact L15 x_t_opens x_t_count x_t_open hf H locs ls hP hD hS (lv_sub hl [0, 1, 2, 3] rfl)
  · have hf := if_t c_2 hf
    refine lv_aload_n hx hb dX6_write_5 rfl (lv_at hl 0 rfl) ?_
    refine lv_iload_n hx hb dX6_write_6 rfl (lv_at hl 2 rfl) ?_
    obtain ⟨r7, hc7, hf⟩ := bd_some hf
    refine cV_I X hA hP hD hS hl.1 (c_X6_isPlace l E a_t x_t_signs w_t_pad x_t_places (.ref a_t_page) x_t_begins x_t_court x_t_allowed (.ref a_t_weight) x_t_sights w_t_sight (.ref a_t_count) x_t_opens (.ref a_t_open) w_t_behind w_t_outs w_t_pack w_t_image w_t_isKept p2 r7 hc7) 1 k_738 mw_X6_isPlace hd_X6_isPlace ⟨Nat.le_of_ble_eq_true rfl, Nat.le_of_ble_eq_true rfl⟩ [0] [1, 2, 3, 4] [4, 0, 1, 2, 3] rfl rfl (wr := [1, 2, 3, 4].filterMap (fun i => (wd_X6_write E a_t a_t_page a_t_count a_t_open a_t_weight x_t_signs w_t_pad x_t_places x_t_begins x_t_court x_t_allowed x_t_sights w_t_sight x_t_opens w_t_behind w_t_outs w_t_pack w_t_image w_t_isKept x_t_page x_t_count x_t_open x_t_weight)[i]?)) rfl rfl rfl 6 0 rfl rfl rfl rfl rfl (Nat.le_of_ble_eq_true rfl) rfl (ws' := (wd_X6_write E a_t a_t_page a_t_count a_t_open a_t_weight x_t_signs w_t_pad x_t_places x_t_begins x_t_court x_t_allowed x_t_sights w_t_sight x_t_opens w_t_behind w_t_outs w_t_pack w_t_image w_t_isKept x_t_page x_t_count x_t_open x_t_weight)) rfl ⟨Nat.le_of_ble_eq_true rfl, Nat.le_of_ble_eq_true rfl⟩ dX6_write_7 (fun H locs hP hD hS => ?_)
    refine lv_if_ne (tgt := 15) hx hb dX6_write_10 (by decide) (fun c_10 => ?_) (fun c_10 => ?_)
    · have hf := if_f c_10 hf
      exact L15 x_t_opens x_t_count x_t_open hf H locs ls hP hD hS (lv_sub hl [0, 1, 2, 3] rfl)
    · have hf := if_t c_10 hf
      refine lv_iconst (v := (-1 : Int32)) hx hb dX6_write_13 (by decide) ?_
      exact fin' _ _ _ _ hf 14 ls H locs dX6_write_14 rfl hP hD hS
abbrev wd_X6_firstPassed (E : EN) (a_t : Nat) (a_t_count : Nat) (x_t_signs : Int32) (w_t_pad : Value) (x_t_places : Int32) (w_t_page : Value) (x_t_begins : Int32) (x_t_court : Int32) (x_t_allowed : Int32) (w_t_weight : Value) (x_t_sights : Int32) (w_t_sight : Value) (x_t_opens : Int32) (w_t_open : Value) (w_t_behind : Value) (w_t_outs : Value) (w_t_pack : Value) (w_t_image : Value) (w_t_isKept : Value) (x_t_count : Nat → Int32) : va_W := [(a_t, e_O 6 [.int x_t_signs, w_t_pad, .int x_t_places, w_t_page, .int x_t_begins, .int x_t_court, .int x_t_allowed, w_t_weight, .int x_t_sights, w_t_sight, .ref a_t_count, .int x_t_opens, w_t_open, w_t_behind, w_t_outs, w_t_pack, w_t_image, w_t_isKept]), (a_t_count, e_I E 40 x_t_count)]
def f_X6_firstPassed_2 (x_t_places : Int32) (x_t_begins : Int32) (x_t_count : Nat → Int32)  : Nat → Int32 → Option (Int32)
  | 0, _ => none
  | n_ + 1, v1 =>
    Option.bind (f_X6_isPassed v1 x_t_places x_t_begins x_t_count) (fun r4 =>
    if r4 = 0 then
      f_X6_firstPassed_2 x_t_places x_t_begins x_t_count n_ (v1 + (1 : Int32))
    else
      some v1)
def f_X6_firstPassed (x_t_places : Int32) (x_t_begins : Int32) (x_t_count : Nat → Int32) : Option (Int32) :=
  f_X6_firstPassed_2 x_t_places x_t_begins x_t_count FU (0 : Int32)
set_option maxHeartbeats 4000000 in
set_option maxRecDepth 100000 in
theorem c_X6_firstPassed (l : Launch) (E : EN) (a_t a_t_count : Nat) (x_t_signs : Int32) (w_t_pad : Value) (x_t_places : Int32) (w_t_page : Value) (x_t_begins : Int32) (x_t_court : Int32) (x_t_allowed : Int32) (w_t_weight : Value) (x_t_sights : Int32) (w_t_sight : Value) (x_t_opens : Int32) (w_t_open : Value) (w_t_behind : Value) (w_t_outs : Value) (w_t_pack : Value) (w_t_image : Value) (w_t_isKept : Value) (x_t_count : Nat → Int32)  (res : Int32) (hf : f_X6_firstPassed x_t_places x_t_begins x_t_count = some res) : CtI l yX6_firstPassed cX6_firstPassed 2 .int 2 46 E [.ref a_t] (wd_X6_firstPassed E a_t a_t_count x_t_signs w_t_pad x_t_places w_t_page x_t_begins x_t_court x_t_allowed w_t_weight x_t_sights w_t_sight x_t_opens w_t_open w_t_behind w_t_outs w_t_pack w_t_image w_t_isKept x_t_count) (wd_X6_firstPassed E a_t a_t_count x_t_signs w_t_pad x_t_places w_t_page x_t_begins x_t_court x_t_allowed w_t_weight x_t_sights w_t_sight x_t_opens w_t_open w_t_behind w_t_outs w_t_pack w_t_image w_t_isKept x_t_count) res := by
  refine CtI.of RX6 (by decide) rfl (Nat.le_of_ble_eq_true rfl) ?_
  intro p e s m below meth c A Q ls X hA hP hD hl fin
  have hx := X.1
  have hb := X.2.1
  have hl : lv_has ls 2 [(0, .ref a_t)] := hl
  have fin' : ∀ (fr0 : Int32), some fr0 = some res → ∀ (pc : Nat) (ls : Array Slot) (H : Heap) (locs : List Loc), decode cX6_firstPassed pc = .ok (.ireturn, 1) → narrow .int (.int fr0) = .int fr0 → va_P E.1 vwCl (wd_X6_firstPassed E a_t a_t_count x_t_signs w_t_pad x_t_places w_t_page x_t_begins x_t_court x_t_allowed w_t_weight x_t_sights w_t_sight x_t_opens w_t_open w_t_behind w_t_outs w_t_pack w_t_image w_t_isKept x_t_count) H → va_D A (wd_X6_firstPassed E a_t a_t_count x_t_signs w_t_pad x_t_places w_t_page x_t_begins x_t_court x_t_allowed w_t_weight x_t_sights w_t_sight x_t_opens w_t_open w_t_behind w_t_outs w_t_pack w_t_image w_t_isKept x_t_count) → va_S A s.heap H locs → W p l e (rmm 2 46) s m ([.ref a_t] : List Value).toArray below meth c H locs 0 0 Q (F0 m pc ls [.int fr0]) := by
    intro fr0 he
    cases he
    exact fin
  have L2 : ∀ (n2 : Nat) (v1 : Int32), f_X6_firstPassed_2 x_t_places x_t_begins x_t_count n2 v1 = some res → ∀ (H : Heap) (locs : List Loc) (ls : Array Slot), va_P E.1 vwCl (wd_X6_firstPassed E a_t a_t_count x_t_signs w_t_pad x_t_places w_t_page x_t_begins x_t_court x_t_allowed w_t_weight x_t_sights w_t_sight x_t_opens w_t_open w_t_behind w_t_outs w_t_pack w_t_image w_t_isKept x_t_count) H → va_D A (wd_X6_firstPassed E a_t a_t_count x_t_signs w_t_pad x_t_places w_t_page x_t_begins x_t_court x_t_allowed w_t_weight x_t_sights w_t_sight x_t_opens w_t_open w_t_behind w_t_outs w_t_pack w_t_image w_t_isKept x_t_count) → va_S A s.heap H locs → lv_has ls 2 [(0, .ref a_t), (1, .int v1)] → W p l e (rmm 2 46) s m ([.ref a_t] : List Value).toArray below meth c H locs 0 0 Q (F0 m 2 ls []) := by
    intro n2
    induction n2 with
    | zero => intro v1 hf; rw [f_X6_firstPassed_2] at hf; cases hf
    | succ n2 ih2 =>
      intro v1 hf H locs ls hP hD hS hl
      rw [f_X6_firstPassed_2] at hf
      refine lv_aload_n hx hb dX6_firstPassed_2 rfl (lv_at hl 0 rfl) ?_
      refine lv_iload_n hx hb dX6_firstPassed_3 rfl (lv_at hl 1 rfl) ?_
      obtain ⟨r4, hc4, hf⟩ := bd_some hf
      refine cV_I X hA hP hD hS hl.1 (c_X6_isPassed l E a_t a_t_count x_t_signs w_t_pad x_t_places w_t_page x_t_begins x_t_court x_t_allowed w_t_weight x_t_sights w_t_sight x_t_opens w_t_open w_t_behind w_t_outs w_t_pack w_t_image w_t_isKept x_t_count v1 r4 hc4) 1 k_785 mw_X6_isPassed hd_X6_isPassed ⟨Nat.le_of_ble_eq_true rfl, Nat.le_of_ble_eq_true rfl⟩ [0, 1] [] [0, 1] rfl rfl (wr := []) rfl rfl rfl 6 0 rfl rfl rfl rfl rfl (Nat.le_of_ble_eq_true rfl) rfl (ws' := (wd_X6_firstPassed E a_t a_t_count x_t_signs w_t_pad x_t_places w_t_page x_t_begins x_t_court x_t_allowed w_t_weight x_t_sights w_t_sight x_t_opens w_t_open w_t_behind w_t_outs w_t_pack w_t_image w_t_isKept x_t_count)) rfl ⟨Nat.le_of_ble_eq_true rfl, Nat.le_of_ble_eq_true rfl⟩ dX6_firstPassed_4 (fun H locs hP hD hS => ?_)
      refine lv_if_ne (tgt := 16) hx hb dX6_firstPassed_7 (by decide) (fun c_7 => ?_) (fun c_7 => ?_)
      · have hf := if_f c_7 hf
        refine lv_iload_n hx hb dX6_firstPassed_16 rfl (lv_at hl 1 rfl) ?_
        exact fin' _ hf 17 ls H locs dX6_firstPassed_17 rfl hP hD hS
      · have hf := if_t c_7 hf
        refine lv_iinc (v := (v1 + (1 : Int32))) (lv' := [(1, .int (v1 + (1 : Int32))), (0, .ref a_t)]) hx hb dX6_firstPassed_10 hl (k := 1) rfl rfl (by decide) rfl (fun ls hl => ?_)
        refine lv_goto (tgt := 2) hx hb dX6_firstPassed_13 (by decide) ?_
        exact ih2 (v1 + (1 : Int32)) hf H locs ls hP hD hS (lv_sub hl [1, 0] rfl)
  have hS : va_S A s.heap s.heap [] := va_S.rf
  obtain ⟨H, hH9⟩ : ∃ z, z = s.heap := ⟨_, rfl⟩
  obtain ⟨locs, hL9⟩ : ∃ z : List Loc, z = [] := ⟨_, rfl⟩
  rw [← hL9]
  rw [← hL9] at hS
  have hP : va_P E.1 vwCl (wd_X6_firstPassed E a_t a_t_count x_t_signs w_t_pad x_t_places w_t_page x_t_begins x_t_court x_t_allowed w_t_weight x_t_sights w_t_sight x_t_opens w_t_open w_t_behind w_t_outs w_t_pack w_t_image w_t_isKept x_t_count) H := by rw [hH9]; exact hP
  have hS : va_S A s.heap H locs := by rw [hH9]; exact hS
  suffices hgoal : W p l e (rmm 2 46) s m ([.ref a_t] : List Value).toArray below meth c H locs 0 0 Q (F0 m 0 ls []) by rw [hH9] at hgoal; exact hgoal
  rw [f_X6_firstPassed] at hf
  refine lv_iconst (v := (0 : Int32)) hx hb dX6_firstPassed_0 (by decide) ?_
  refine lv_istore_n (lv' := [(1, .int (0 : Int32)), (0, .ref a_t)]) hx hb dX6_firstPassed_1 rfl hl (by decide) rfl (fun ls hl => ?_)
  exact L2 FU (0 : Int32) hf H locs ls hP hD hS (lv_sub hl [1, 0] rfl)
abbrev wd_X6_soonest (E : EN) (a_t : Nat) (a_t_page : Nat) (a_t_count : Nat) (a_t_open : Nat) (a_t_weight : Nat) (x_t_signs : Int32) (w_t_pad : Value) (x_t_places : Int32) (x_t_begins : Int32) (x_t_court : Int32) (x_t_allowed : Int32) (x_t_sights : Int32) (w_t_sight : Value) (x_t_opens : Int32) (w_t_behind : Value) (w_t_outs : Value) (w_t_pack : Value) (w_t_image : Value) (w_t_isKept : Value) (x_t_page : Nat → Int32) (x_t_count : Nat → Int32) (x_t_open : Nat → Int32) (x_t_weight : Nat → Int32) : va_W := [(a_t, e_O 6 [.int x_t_signs, w_t_pad, .int x_t_places, .ref a_t_page, .int x_t_begins, .int x_t_court, .int x_t_allowed, .ref a_t_weight, .int x_t_sights, w_t_sight, .ref a_t_count, .int x_t_opens, .ref a_t_open, w_t_behind, w_t_outs, w_t_pack, w_t_image, w_t_isKept]), (a_t_page, e_I E 40 x_t_page), (a_t_count, e_I E 40 x_t_count), (a_t_open, e_I E 5 x_t_open), (a_t_weight, e_I E 11 x_t_weight)]
def f_X6_soonest_29 (p1 : Int32) (x_t_places : Int32) (x_t_begins : Int32) (x_t_allowed : Int32) (x_t_weight : Nat → Int32)  : Nat → Int32 → Int32 → Int32 → Int32 → (Nat → Int32) → (Nat → Int32) → Option (Int32 × Int32 × (Nat → Int32) × (Nat → Int32))
  | 0, _, _, _, _, _, _ => none
  | n_ + 1, v2, v3, v4, m_t_opens, m_t_count, m_t_open =>
    Option.bind (f_X6_codes m_t_opens) (fun r32 =>
    if r32 ≤ v4 then
      if 0 ≤ v2 then
        if p1 = (-1 : Int32) then
          some (v3, m_t_opens, m_t_count, m_t_open)
        else
          Option.bind (f_X6_countIn v2 p1 m_t_opens m_t_count m_t_open x_t_weight) (fun r115 =>
          some (r115.1, m_t_opens, r115.2, m_t_open))
      else
        some ((-6 : Int32), m_t_opens, m_t_count, m_t_open)
    else
      Option.bind (f_X6_writeIn v4 m_t_opens m_t_count m_t_open x_t_weight) (fun r41 =>
      if r41.1 < 0 then
        f_X6_soonest_29 p1 x_t_places x_t_begins x_t_allowed x_t_weight n_ v2 v3 (v4 + (1 : Int32)) m_t_opens r41.2 m_t_open
      else
        Option.bind (f_X6_isAllowed x_t_allowed m_t_opens r41.2 m_t_open) (fun r52 =>
        if r52 = 0 then
          f_X6_soonest_29 p1 x_t_places x_t_begins x_t_allowed x_t_weight n_ v2 v3 (v4 + (1 : Int32)) m_t_opens r41.2 m_t_open
        else
          Option.bind (f_X6_outsOfAll x_t_places x_t_begins r41.2) (fun r59 =>
          if r59 = (1 : Int32) then
            Option.bind (f_X6_firstPassed x_t_places x_t_begins r41.2) (fun r67 =>
            if v2 < 0 then
              f_X6_soonest_29 p1 x_t_places x_t_begins x_t_allowed x_t_weight n_ v4 r67 (v4 + (1 : Int32)) m_t_opens r41.2 m_t_open
            else
              if v3 ≤ r67 then
                f_X6_soonest_29 p1 x_t_places x_t_begins x_t_allowed x_t_weight n_ v2 v3 (v4 + (1 : Int32)) m_t_opens r41.2 m_t_open
              else
                f_X6_soonest_29 p1 x_t_places x_t_begins x_t_allowed x_t_weight n_ v4 r67 (v4 + (1 : Int32)) m_t_opens r41.2 m_t_open)
          else
            f_X6_soonest_29 p1 x_t_places x_t_begins x_t_allowed x_t_weight n_ v2 v3 (v4 + (1 : Int32)) m_t_opens r41.2 m_t_open))))
def f_X6_soonest (p1 : Int32) (x_t_places : Int32) (x_t_begins : Int32) (x_t_court : Int32) (x_t_allowed : Int32) (x_t_opens : Int32) (x_t_page : Nat → Int32) (x_t_count : Nat → Int32) (x_t_open : Nat → Int32) (x_t_weight : Nat → Int32) : Option (Int32 × Int32 × (Nat → Int32) × (Nat → Int32)) :=
  Option.bind (f_X6_many (63 : Int32) x_t_places x_t_page) (fun r3 =>
  if r3 ≤ 0 then
    Option.bind (f_X6_lay x_t_court x_t_places x_t_count x_t_page x_t_open) (fun r17 =>
    f_X6_soonest_29 p1 x_t_places x_t_begins x_t_allowed x_t_weight FU (-6 : Int32) (-6 : Int32) (0 : Int32) r17.1 r17.2.1 r17.2.2)
  else
    some ((-3 : Int32), x_t_opens, x_t_count, x_t_open))
set_option maxHeartbeats 4000000 in
set_option maxRecDepth 100000 in
theorem c_X6_soonest (l : Launch) (E : EN) (a_t a_t_page a_t_count a_t_open a_t_weight : Nat) (x_t_signs : Int32) (w_t_pad : Value) (x_t_places : Int32) (x_t_begins : Int32) (x_t_court : Int32) (x_t_allowed : Int32) (x_t_sights : Int32) (w_t_sight : Value) (x_t_opens : Int32) (w_t_behind : Value) (w_t_outs : Value) (w_t_pack : Value) (w_t_image : Value) (w_t_isKept : Value) (x_t_page : Nat → Int32) (x_t_count : Nat → Int32) (x_t_open : Nat → Int32) (x_t_weight : Nat → Int32) (p1 : Int32) (res : Int32 × Int32 × (Nat → Int32) × (Nat → Int32)) (hf : f_X6_soonest p1 x_t_places x_t_begins x_t_court x_t_allowed x_t_opens x_t_page x_t_count x_t_open x_t_weight = some res) : CtI l yX6_soonest cX6_soonest 7 .int 3 67 E [.ref a_t, .int p1] (wd_X6_soonest E a_t a_t_page a_t_count a_t_open a_t_weight x_t_signs w_t_pad x_t_places x_t_begins x_t_court x_t_allowed x_t_sights w_t_sight x_t_opens w_t_behind w_t_outs w_t_pack w_t_image w_t_isKept x_t_page x_t_count x_t_open x_t_weight) (wd_X6_soonest E a_t a_t_page a_t_count a_t_open a_t_weight x_t_signs w_t_pad x_t_places x_t_begins x_t_court x_t_allowed x_t_sights w_t_sight res.2.1 w_t_behind w_t_outs w_t_pack w_t_image w_t_isKept x_t_page res.2.2.1 res.2.2.2 x_t_weight) res.1 := by
  refine CtI.of RX6 (by decide) rfl (Nat.le_of_ble_eq_true rfl) ?_
  intro p e s m below meth c A Q ls X hA hP hD hl fin
  have hx := X.1
  have hb := X.2.1
  have hl : lv_has ls 7 [(0, .ref a_t), (1, .int p1)] := hl
  have fin' : ∀ (fr0 : Int32) (fr1 : Int32) (fr2 : (Nat → Int32)) (fr3 : (Nat → Int32)), some (fr0, fr1, fr2, fr3) = some res → ∀ (pc : Nat) (ls : Array Slot) (H : Heap) (locs : List Loc), decode cX6_soonest pc = .ok (.ireturn, 1) → narrow .int (.int fr0) = .int fr0 → va_P E.1 vwCl (wd_X6_soonest E a_t a_t_page a_t_count a_t_open a_t_weight x_t_signs w_t_pad x_t_places x_t_begins x_t_court x_t_allowed x_t_sights w_t_sight fr1 w_t_behind w_t_outs w_t_pack w_t_image w_t_isKept x_t_page fr2 fr3 x_t_weight) H → va_D A (wd_X6_soonest E a_t a_t_page a_t_count a_t_open a_t_weight x_t_signs w_t_pad x_t_places x_t_begins x_t_court x_t_allowed x_t_sights w_t_sight fr1 w_t_behind w_t_outs w_t_pack w_t_image w_t_isKept x_t_page fr2 fr3 x_t_weight) → va_S A s.heap H locs → W p l e (rmm 3 67) s m ([.ref a_t, .int p1] : List Value).toArray below meth c H locs 0 0 Q (F0 m pc ls [.int fr0]) := by
    intro fr0 fr1 fr2 fr3 he
    cases he
    exact fin
  have L29 : ∀ (n29 : Nat) (v2 : Int32) (v3 : Int32) (v4 : Int32) (m_t_opens : Int32) (m_t_count : Nat → Int32) (m_t_open : Nat → Int32), f_X6_soonest_29 p1 x_t_places x_t_begins x_t_allowed x_t_weight n29 v2 v3 v4 m_t_opens m_t_count m_t_open = some res → ∀ (H : Heap) (locs : List Loc) (ls : Array Slot), va_P E.1 vwCl (wd_X6_soonest E a_t a_t_page a_t_count a_t_open a_t_weight x_t_signs w_t_pad x_t_places x_t_begins x_t_court x_t_allowed x_t_sights w_t_sight m_t_opens w_t_behind w_t_outs w_t_pack w_t_image w_t_isKept x_t_page m_t_count m_t_open x_t_weight) H → va_D A (wd_X6_soonest E a_t a_t_page a_t_count a_t_open a_t_weight x_t_signs w_t_pad x_t_places x_t_begins x_t_court x_t_allowed x_t_sights w_t_sight m_t_opens w_t_behind w_t_outs w_t_pack w_t_image w_t_isKept x_t_page m_t_count m_t_open x_t_weight) → va_S A s.heap H locs → lv_has ls 7 [(0, .ref a_t), (1, .int p1), (2, .int v2), (3, .int v3), (4, .int v4)] → W p l e (rmm 3 67) s m ([.ref a_t, .int p1] : List Value).toArray below meth c H locs 0 0 Q (F0 m 29 ls []) := by
    intro n29
    induction n29 with
    | zero => intro v2 v3 v4 m_t_opens m_t_count m_t_open hf; rw [f_X6_soonest_29] at hf; cases hf
    | succ n29 ih29 =>
      intro v2 v3 v4 m_t_opens m_t_count m_t_open hf H locs ls hP hD hS hl
      rw [f_X6_soonest_29] at hf
      refine lv_iload hx hb dX6_soonest_29 (lv_at hl 4 rfl) ?_
      refine lv_aload_n hx hb dX6_soonest_31 rfl (lv_at hl 0 rfl) ?_
      obtain ⟨r32, hc32, hf⟩ := bd_some hf
      refine cV_I X hA hP hD hS hl.1 (c_X6_codes l E a_t x_t_signs w_t_pad x_t_places (.ref a_t_page) x_t_begins x_t_court x_t_allowed (.ref a_t_weight) x_t_sights w_t_sight (.ref a_t_count) m_t_opens (.ref a_t_open) w_t_behind w_t_outs w_t_pack w_t_image w_t_isKept r32 hc32) 0 k_836 mw_X6_codes hd_X6_codes ⟨Nat.le_of_ble_eq_true rfl, Nat.le_of_ble_eq_true rfl⟩ [0] [1, 2, 3, 4] [4, 0, 1, 2, 3] rfl rfl (wr := [1, 2, 3, 4].filterMap (fun i => (wd_X6_soonest E a_t a_t_page a_t_count a_t_open a_t_weight x_t_signs w_t_pad x_t_places x_t_begins x_t_court x_t_allowed x_t_sights w_t_sight m_t_opens w_t_behind w_t_outs w_t_pack w_t_image w_t_isKept x_t_page m_t_count m_t_open x_t_weight)[i]?)) rfl rfl rfl 6 0 rfl rfl rfl rfl rfl (Nat.le_of_ble_eq_true rfl) rfl (ws' := (wd_X6_soonest E a_t a_t_page a_t_count a_t_open a_t_weight x_t_signs w_t_pad x_t_places x_t_begins x_t_court x_t_allowed x_t_sights w_t_sight m_t_opens w_t_behind w_t_outs w_t_pack w_t_image w_t_isKept x_t_page m_t_count m_t_open x_t_weight)) rfl ⟨Nat.le_of_ble_eq_true rfl, Nat.le_of_ble_eq_true rfl⟩ dX6_soonest_32 (fun H locs hP hD hS => ?_)
      refine lv_icmp_ge (tgt := 94) hx hb dX6_soonest_35 (by decide) (fun c_35 => ?_) (fun c_35 => ?_)
      · have hf := if_t c_35 hf
        refine lv_iload_n hx hb dX6_soonest_94 rfl (lv_at hl 2 rfl) ?_
        refine lv_if_ge (tgt := 103) hx hb dX6_soonest_95 (by decide) (fun c_95 => ?_) (fun c_95 => ?_)
        · have hf := if_t c_95 hf
          refine lv_iload_n hx hb dX6_soonest_103 rfl (lv_at hl 1 rfl) ?_
          refine lv_iconst (v := (-1 : Int32)) hx hb dX6_soonest_104 (by decide) ?_
          refine lv_icmp_ne (tgt := 112) hx hb dX6_soonest_105 (by decide) (fun c_105 => ?_) (fun c_105 => ?_)
          · have hf := if_f c_105 hf
            refine lv_aload_n hx hb dX6_soonest_112 rfl (lv_at hl 0 rfl) ?_
            refine lv_iload_n hx hb dX6_soonest_113 rfl (lv_at hl 2 rfl) ?_
            refine lv_iload_n hx hb dX6_soonest_114 rfl (lv_at hl 1 rfl) ?_
            obtain ⟨r115, hc115, hf⟩ := bd_some hf
            refine cV_I X hA hP hD hS hl.1 (c_X6_countIn l E a_t a_t_count a_t_open a_t_weight x_t_signs w_t_pad x_t_places (.ref a_t_page) x_t_begins x_t_court x_t_allowed x_t_sights w_t_sight m_t_opens w_t_behind w_t_outs w_t_pack w_t_image w_t_isKept m_t_count m_t_open x_t_weight v2 p1 r115 hc115) 2 k_871 mw_X6_countIn hd_X6_countIn ⟨Nat.le_of_ble_eq_true rfl, Nat.le_of_ble_eq_true rfl⟩ [0, 2, 3, 4] [1] [1, 0, 2, 3, 4] rfl rfl (wr := [1].filterMap (fun i => (wd_X6_soonest E a_t a_t_page a_t_count a_t_open a_t_weight x_t_signs w_t_pad x_t_places x_t_begins x_t_court x_t_allowed x_t_sights w_t_sight m_t_opens w_t_behind w_t_outs w_t_pack w_t_image w_t_isKept x_t_page m_t_count m_t_open x_t_weight)[i]?)) rfl rfl rfl 6 0 rfl rfl rfl rfl rfl (Nat.le_of_ble_eq_true rfl) rfl (ws' := (wd_X6_soonest E a_t a_t_page a_t_count a_t_open a_t_weight x_t_signs w_t_pad x_t_places x_t_begins x_t_court x_t_allowed x_t_sights w_t_sight m_t_opens w_t_behind w_t_outs w_t_pack w_t_image w_t_isKept x_t_page r115.2 m_t_open x_t_weight)) rfl ⟨Nat.le_of_ble_eq_true rfl, Nat.le_of_ble_eq_true rfl⟩ dX6_soonest_115 (fun H locs hP hD hS => ?_)
            exact fin' _ _ _ _ hf 118 ls H locs dX6_soonest_118 rfl hP hD hS
          · have hf := if_t c_105 hf
            refine lv_iload_n hx hb dX6_soonest_108 rfl (lv_at hl 3 rfl) ?_
            refine lv_goto (tgt := 118) hx hb dX6_soonest_109 (by decide) ?_
            exact fin' _ _ _ _ hf 118 ls H locs dX6_soonest_118 rfl hP hD hS
        · have hf := if_f c_95 hf
          refine lv_bipush (v := (-6 : Int32)) hx hb dX6_soonest_98 (by decide) ?_
          refine lv_goto (tgt := 118) hx hb dX6_soonest_100 (by decide) ?_
          exact fin' _ _ _ _ hf 118 ls H locs dX6_soonest_118 rfl hP hD hS
      · have hf := if_f c_35 hf
        refine lv_aload_n hx hb dX6_soonest_38 rfl (lv_at hl 0 rfl) ?_
        refine lv_iload hx hb dX6_soonest_39 (lv_at hl 4 rfl) ?_
        obtain ⟨r41, hc41, hf⟩ := bd_some hf
        refine cV_I X hA hP hD hS hl.1 (c_X6_writeIn l E a_t a_t_count a_t_open a_t_weight x_t_signs w_t_pad x_t_places (.ref a_t_page) x_t_begins x_t_court x_t_allowed x_t_sights w_t_sight m_t_opens w_t_behind w_t_outs w_t_pack w_t_image w_t_isKept m_t_count m_t_open x_t_weight v4 r41 hc41) 1 k_840 mw_X6_writeIn hd_X6_writeIn ⟨Nat.le_of_ble_eq_true rfl, Nat.le_of_ble_eq_true rfl⟩ [0, 2, 3, 4] [1] [1, 0, 2, 3, 4] rfl rfl (wr := [1].filterMap (fun i => (wd_X6_soonest E a_t a_t_page a_t_count a_t_open a_t_weight x_t_signs w_t_pad x_t_places x_t_begins x_t_court x_t_allowed x_t_sights w_t_sight m_t_opens w_t_behind w_t_outs w_t_pack w_t_image w_t_isKept x_t_page m_t_count m_t_open x_t_weight)[i]?)) rfl rfl rfl 6 0 rfl rfl rfl rfl rfl (Nat.le_of_ble_eq_true rfl) rfl (ws' := (wd_X6_soonest E a_t a_t_page a_t_count a_t_open a_t_weight x_t_signs w_t_pad x_t_places x_t_begins x_t_court x_t_allowed x_t_sights w_t_sight m_t_opens w_t_behind w_t_outs w_t_pack w_t_image w_t_isKept x_t_page r41.2 m_t_open x_t_weight)) rfl ⟨Nat.le_of_ble_eq_true rfl, Nat.le_of_ble_eq_true rfl⟩ dX6_soonest_41 (fun H locs hP hD hS => ?_)
        refine lv_istore (lv' := [(5, .int r41.1), (0, .ref a_t), (1, .int p1), (2, .int v2), (3, .int v3), (4, .int v4)]) hx hb dX6_soonest_44 hl (by decide) rfl (fun ls hl => ?_)
        refine lv_iload hx hb dX6_soonest_46 (lv_at hl 0 rfl) ?_
        refine lv_if_lt (tgt := 88) hx hb dX6_soonest_48 (by decide) (fun c_48 => ?_) (fun c_48 => ?_)
        · have hf := if_t c_48 hf
          refine lv_iinc (v := (v4 + (1 : Int32))) (lv' := [(4, .int (v4 + (1 : Int32))), (5, .int r41.1), (0, .ref a_t), (1, .int p1), (2, .int v2), (3, .int v3)]) hx hb dX6_soonest_88 hl (k := 5) rfl rfl (by decide) rfl (fun ls hl => ?_)
          refine lv_goto (tgt := 29) hx hb dX6_soonest_91 (by decide) ?_
          exact ih29 v2 v3 (v4 + (1 : Int32)) m_t_opens r41.2 m_t_open hf H locs ls hP hD hS (lv_sub hl [2, 3, 4, 5, 0] rfl)
        · have hf := if_f c_48 hf
          refine lv_aload_n hx hb dX6_soonest_51 rfl (lv_at hl 1 rfl) ?_
          obtain ⟨r52, hc52, hf⟩ := bd_some hf
          refine cV_I X hA hP hD hS hl.1 (c_X6_isAllowed l E a_t a_t_count a_t_open x_t_signs w_t_pad x_t_places (.ref a_t_page) x_t_begins x_t_court x_t_allowed (.ref a_t_weight) x_t_sights w_t_sight m_t_opens w_t_behind w_t_outs w_t_pack w_t_image w_t_isKept r41.2 m_t_open r52 hc52) 0 k_859 mw_X6_isAllowed hd_X6_isAllowed ⟨Nat.le_of_ble_eq_true rfl, Nat.le_of_ble_eq_true rfl⟩ [0, 2, 3] [1, 4] [2, 0, 3, 4, 1] rfl rfl (wr := [1, 4].filterMap (fun i => (wd_X6_soonest E a_t a_t_page a_t_count a_t_open a_t_weight x_t_signs w_t_pad x_t_places x_t_begins x_t_court x_t_allowed x_t_sights w_t_sight m_t_opens w_t_behind w_t_outs w_t_pack w_t_image w_t_isKept x_t_page r41.2 m_t_open x_t_weight)[i]?)) rfl rfl rfl 6 0 rfl rfl rfl rfl rfl (Nat.le_of_ble_eq_true rfl) rfl (ws' := (wd_X6_soonest E a_t a_t_page a_t_count a_t_open a_t_weight x_t_signs w_t_pad x_t_places x_t_begins x_t_court x_t_allowed x_t_sights w_t_sight m_t_opens w_t_behind w_t_outs w_t_pack w_t_image w_t_isKept x_t_page r41.2 m_t_open x_t_weight)) rfl ⟨Nat.le_of_ble_eq_true rfl, Nat.le_of_ble_eq_true rfl⟩ dX6_soonest_52 (fun H locs hP hD hS => ?_)
          refine lv_if_eq (tgt := 88) hx hb dX6_soonest_55 (by decide) (fun c_55 => ?_) (fun c_55 => ?_)
          · have hf := if_t c_55 hf
            refine lv_iinc (v := (v4 + (1 : Int32))) (lv' := [(4, .int (v4 + (1 : Int32))), (5, .int r41.1), (0, .ref a_t), (1, .int p1), (2, .int v2), (3, .int v3)]) hx hb dX6_soonest_88 hl (k := 5) rfl rfl (by decide) rfl (fun ls hl => ?_)
            refine lv_goto (tgt := 29) hx hb dX6_soonest_91 (by decide) ?_
            exact ih29 v2 v3 (v4 + (1 : Int32)) m_t_opens r41.2 m_t_open hf H locs ls hP hD hS (lv_sub hl [2, 3, 4, 5, 0] rfl)
          · have hf := if_f c_55 hf
            refine lv_aload_n hx hb dX6_soonest_58 rfl (lv_at hl 1 rfl) ?_
            obtain ⟨r59, hc59, hf⟩ := bd_some hf
            refine cV_I X hA hP hD hS hl.1 (c_X6_outsOfAll l E a_t a_t_count x_t_signs w_t_pad x_t_places (.ref a_t_page) x_t_begins x_t_court x_t_allowed (.ref a_t_weight) x_t_sights w_t_sight m_t_opens (.ref a_t_open) w_t_behind w_t_outs w_t_pack w_t_image w_t_isKept r41.2 r59 hc59) 0 k_769 mw_X6_outsOfAll hd_X6_outsOfAll ⟨Nat.le_of_ble_eq_true rfl, Nat.le_of_ble_eq_true rfl⟩ [0, 2] [1, 3, 4] [3, 0, 4, 1, 2] rfl rfl (wr := [1, 3, 4].filterMap (fun i => (wd_X6_soonest E a_t a_t_page a_t_count a_t_open a_t_weight x_t_signs w_t_pad x_t_places x_t_begins x_t_court x_t_allowed x_t_sights w_t_sight m_t_opens w_t_behind w_t_outs w_t_pack w_t_image w_t_isKept x_t_page r41.2 m_t_open x_t_weight)[i]?)) rfl rfl rfl 6 0 rfl rfl rfl rfl rfl (Nat.le_of_ble_eq_true rfl) rfl (ws' := (wd_X6_soonest E a_t a_t_page a_t_count a_t_open a_t_weight x_t_signs w_t_pad x_t_places x_t_begins x_t_court x_t_allowed x_t_sights w_t_sight m_t_opens w_t_behind w_t_outs w_t_pack w_t_image w_t_isKept x_t_page r41.2 m_t_open x_t_weight)) rfl ⟨Nat.le_of_ble_eq_true rfl, Nat.le_of_ble_eq_true rfl⟩ dX6_soonest_59 (fun H locs hP hD hS => ?_)
            refine lv_iconst (v := (1 : Int32)) hx hb dX6_soonest_62 (by decide) ?_
            refine lv_icmp_ne (tgt := 88) hx hb dX6_soonest_63 (by decide) (fun c_63 => ?_) (fun c_63 => ?_)
            · have hf := if_f c_63 hf
              refine lv_iinc (v := (v4 + (1 : Int32))) (lv' := [(4, .int (v4 + (1 : Int32))), (5, .int r41.1), (0, .ref a_t), (1, .int p1), (2, .int v2), (3, .int v3)]) hx hb dX6_soonest_88 hl (k := 5) rfl rfl (by decide) rfl (fun ls hl => ?_)
              refine lv_goto (tgt := 29) hx hb dX6_soonest_91 (by decide) ?_
              exact ih29 v2 v3 (v4 + (1 : Int32)) m_t_opens r41.2 m_t_open hf H locs ls hP hD hS (lv_sub hl [2, 3, 4, 5, 0] rfl)
            · have hf := if_t c_63 hf
              refine lv_aload_n hx hb dX6_soonest_66 rfl (lv_at hl 1 rfl) ?_
              obtain ⟨r67, hc67, hf⟩ := bd_some hf
              refine cV_I X hA hP hD hS hl.1 (c_X6_firstPassed l E a_t a_t_count x_t_signs w_t_pad x_t_places (.ref a_t_page) x_t_begins x_t_court x_t_allowed (.ref a_t_weight) x_t_sights w_t_sight m_t_opens (.ref a_t_open) w_t_behind w_t_outs w_t_pack w_t_image w_t_isKept r41.2 r67 hc67) 0 k_879 mw_X6_firstPassed hd_X6_firstPassed ⟨Nat.le_of_ble_eq_true rfl, Nat.le_of_ble_eq_true rfl⟩ [0, 2] [1, 3, 4] [3, 0, 4, 1, 2] rfl rfl (wr := [1, 3, 4].filterMap (fun i => (wd_X6_soonest E a_t a_t_page a_t_count a_t_open a_t_weight x_t_signs w_t_pad x_t_places x_t_begins x_t_court x_t_allowed x_t_sights w_t_sight m_t_opens w_t_behind w_t_outs w_t_pack w_t_image w_t_isKept x_t_page r41.2 m_t_open x_t_weight)[i]?)) rfl rfl rfl 6 0 rfl rfl rfl rfl rfl (Nat.le_of_ble_eq_true rfl) rfl (ws' := (wd_X6_soonest E a_t a_t_page a_t_count a_t_open a_t_weight x_t_signs w_t_pad x_t_places x_t_begins x_t_court x_t_allowed x_t_sights w_t_sight m_t_opens w_t_behind w_t_outs w_t_pack w_t_image w_t_isKept x_t_page r41.2 m_t_open x_t_weight)) rfl ⟨Nat.le_of_ble_eq_true rfl, Nat.le_of_ble_eq_true rfl⟩ dX6_soonest_67 (fun H locs hP hD hS => ?_)
              refine lv_istore (lv' := [(6, .int r67), (5, .int r41.1), (0, .ref a_t), (1, .int p1), (2, .int v2), (3, .int v3), (4, .int v4)]) hx hb dX6_soonest_70 hl (by decide) rfl (fun ls hl => ?_)
              refine lv_iload_n hx hb dX6_soonest_72 rfl (lv_at hl 4 rfl) ?_
              refine lv_if_lt (tgt := 82) hx hb dX6_soonest_73 (by decide) (fun c_73 => ?_) (fun c_73 => ?_)
              · have hf := if_t c_73 hf
                refine lv_iload hx hb dX6_soonest_82 (lv_at hl 6 rfl) ?_
                refine lv_istore_n (lv' := [(2, .int v4), (6, .int r67), (5, .int r41.1), (0, .ref a_t), (1, .int p1), (3, .int v3), (4, .int v4)]) hx hb dX6_soonest_84 rfl hl (by decide) rfl (fun ls hl => ?_)
                refine lv_iload hx hb dX6_soonest_85 (lv_at hl 1 rfl) ?_
                refine lv_istore_n (lv' := [(3, .int r67), (2, .int v4), (6, .int r67), (5, .int r41.1), (0, .ref a_t), (1, .int p1), (4, .int v4)]) hx hb dX6_soonest_87 rfl hl (by decide) rfl (fun ls hl => ?_)
                refine lv_iinc (v := (v4 + (1 : Int32))) (lv' := [(4, .int (v4 + (1 : Int32))), (3, .int r67), (2, .int v4), (6, .int r67), (5, .int r41.1), (0, .ref a_t), (1, .int p1)]) hx hb dX6_soonest_88 hl (k := 6) rfl rfl (by decide) rfl (fun ls hl => ?_)
                refine lv_goto (tgt := 29) hx hb dX6_soonest_91 (by decide) ?_
                exact ih29 v4 r67 (v4 + (1 : Int32)) m_t_opens r41.2 m_t_open hf H locs ls hP hD hS (lv_sub hl [5, 6, 2, 1, 0] rfl)
              · have hf := if_f c_73 hf
                refine lv_iload hx hb dX6_soonest_76 (lv_at hl 0 rfl) ?_
                refine lv_iload_n hx hb dX6_soonest_78 rfl (lv_at hl 5 rfl) ?_
                refine lv_icmp_ge (tgt := 88) hx hb dX6_soonest_79 (by decide) (fun c_79 => ?_) (fun c_79 => ?_)
                · have hf := if_t c_79 hf
                  refine lv_iinc (v := (v4 + (1 : Int32))) (lv' := [(4, .int (v4 + (1 : Int32))), (6, .int r67), (5, .int r41.1), (0, .ref a_t), (1, .int p1), (2, .int v2), (3, .int v3)]) hx hb dX6_soonest_88 hl (k := 6) rfl rfl (by decide) rfl (fun ls hl => ?_)
                  refine lv_goto (tgt := 29) hx hb dX6_soonest_91 (by decide) ?_
                  exact ih29 v2 v3 (v4 + (1 : Int32)) m_t_opens r41.2 m_t_open hf H locs ls hP hD hS (lv_sub hl [3, 4, 5, 6, 0] rfl)
                · have hf := if_f c_79 hf
                  refine lv_iload hx hb dX6_soonest_82 (lv_at hl 6 rfl) ?_
                  refine lv_istore_n (lv' := [(2, .int v4), (6, .int r67), (5, .int r41.1), (0, .ref a_t), (1, .int p1), (3, .int v3), (4, .int v4)]) hx hb dX6_soonest_84 rfl hl (by decide) rfl (fun ls hl => ?_)
                  refine lv_iload hx hb dX6_soonest_85 (lv_at hl 1 rfl) ?_
                  refine lv_istore_n (lv' := [(3, .int r67), (2, .int v4), (6, .int r67), (5, .int r41.1), (0, .ref a_t), (1, .int p1), (4, .int v4)]) hx hb dX6_soonest_87 rfl hl (by decide) rfl (fun ls hl => ?_)
                  refine lv_iinc (v := (v4 + (1 : Int32))) (lv' := [(4, .int (v4 + (1 : Int32))), (3, .int r67), (2, .int v4), (6, .int r67), (5, .int r41.1), (0, .ref a_t), (1, .int p1)]) hx hb dX6_soonest_88 hl (k := 6) rfl rfl (by decide) rfl (fun ls hl => ?_)
                  refine lv_goto (tgt := 29) hx hb dX6_soonest_91 (by decide) ?_
                  exact ih29 v4 r67 (v4 + (1 : Int32)) m_t_opens r41.2 m_t_open hf H locs ls hP hD hS (lv_sub hl [5, 6, 2, 1, 0] rfl)
  have hS : va_S A s.heap s.heap [] := va_S.rf
  obtain ⟨H, hH9⟩ : ∃ z, z = s.heap := ⟨_, rfl⟩
  obtain ⟨locs, hL9⟩ : ∃ z : List Loc, z = [] := ⟨_, rfl⟩
  rw [← hL9]
  rw [← hL9] at hS
  have hP : va_P E.1 vwCl (wd_X6_soonest E a_t a_t_page a_t_count a_t_open a_t_weight x_t_signs w_t_pad x_t_places x_t_begins x_t_court x_t_allowed x_t_sights w_t_sight x_t_opens w_t_behind w_t_outs w_t_pack w_t_image w_t_isKept x_t_page x_t_count x_t_open x_t_weight) H := by rw [hH9]; exact hP
  have hS : va_S A s.heap H locs := by rw [hH9]; exact hS
  suffices hgoal : W p l e (rmm 3 67) s m ([.ref a_t, .int p1] : List Value).toArray below meth c H locs 0 0 Q (F0 m 0 ls []) by rw [hH9] at hgoal; exact hgoal
  rw [f_X6_soonest] at hf
  refine lv_aload_n hx hb dX6_soonest_0 rfl (lv_at hl 0 rfl) ?_
  refine lv_bipush (v := (63 : Int32)) hx hb dX6_soonest_1 (by decide) ?_
  obtain ⟨r3, hc3, hf⟩ := bd_some hf
  refine cV_I X hA hP hD hS hl.1 (c_X6_many l E a_t a_t_page x_t_signs w_t_pad x_t_places x_t_begins x_t_court x_t_allowed (.ref a_t_weight) x_t_sights w_t_sight (.ref a_t_count) x_t_opens (.ref a_t_open) w_t_behind w_t_outs w_t_pack w_t_image w_t_isKept x_t_page (63 : Int32) r3 hc3) 1 k_753 mw_X6_many hd_X6_many ⟨Nat.le_of_ble_eq_true rfl, Nat.le_of_ble_eq_true rfl⟩ [0, 1] [2, 3, 4] [3, 4, 0, 1, 2] rfl rfl (wr := [2, 3, 4].filterMap (fun i => (wd_X6_soonest E a_t a_t_page a_t_count a_t_open a_t_weight x_t_signs w_t_pad x_t_places x_t_begins x_t_court x_t_allowed x_t_sights w_t_sight x_t_opens w_t_behind w_t_outs w_t_pack w_t_image w_t_isKept x_t_page x_t_count x_t_open x_t_weight)[i]?)) rfl rfl rfl 6 0 rfl rfl rfl rfl rfl (Nat.le_of_ble_eq_true rfl) rfl (ws' := (wd_X6_soonest E a_t a_t_page a_t_count a_t_open a_t_weight x_t_signs w_t_pad x_t_places x_t_begins x_t_court x_t_allowed x_t_sights w_t_sight x_t_opens w_t_behind w_t_outs w_t_pack w_t_image w_t_isKept x_t_page x_t_count x_t_open x_t_weight)) rfl ⟨Nat.le_of_ble_eq_true rfl, Nat.le_of_ble_eq_true rfl⟩ dX6_soonest_3 (fun H locs hP hD hS => ?_)
  refine lv_if_le (tgt := 12) hx hb dX6_soonest_6 (by decide) (fun c_6 => ?_) (fun c_6 => ?_)
  · have hf := if_t c_6 hf
    refine lv_aload_n hx hb dX6_soonest_12 rfl (lv_at hl 0 rfl) ?_
    refine lv_aload_n hx hb dX6_soonest_13 rfl (lv_at hl 0 rfl) ?_
    refine gf_X6_23 X hP 0 rfl rfl dX6_soonest_14 ?_
    obtain ⟨r17, hc17, hf⟩ := bd_some hf
    refine cV_V X hA hP hD hS hl.1 (c_X6_lay l E a_t a_t_count a_t_page a_t_open x_t_signs w_t_pad x_t_places x_t_begins x_t_court x_t_allowed (.ref a_t_weight) x_t_sights w_t_sight x_t_opens w_t_behind w_t_outs w_t_pack w_t_image w_t_isKept x_t_count x_t_page x_t_open x_t_court r17 hc17) 1 k_757 mw_X6_lay hd_X6_lay ⟨Nat.le_of_ble_eq_true rfl, Nat.le_of_ble_eq_true rfl⟩ [0, 2, 1, 3] [4] [1, 3, 2, 4, 0] rfl rfl (wr := [4].filterMap (fun i => (wd_X6_soonest E a_t a_t_page a_t_count a_t_open a_t_weight x_t_signs w_t_pad x_t_places x_t_begins x_t_court x_t_allowed x_t_sights w_t_sight x_t_opens w_t_behind w_t_outs w_t_pack w_t_image w_t_isKept x_t_page x_t_count x_t_open x_t_weight)[i]?)) rfl rfl rfl 6 0 rfl rfl rfl rfl rfl (Nat.le_of_ble_eq_true rfl) rfl (ws' := (wd_X6_soonest E a_t a_t_page a_t_count a_t_open a_t_weight x_t_signs w_t_pad x_t_places x_t_begins x_t_court x_t_allowed x_t_sights w_t_sight r17.1 w_t_behind w_t_outs w_t_pack w_t_image w_t_isKept x_t_page r17.2.1 r17.2.2 x_t_weight)) rfl ⟨Nat.le_of_ble_eq_true rfl, Nat.le_of_ble_eq_true rfl⟩ dX6_soonest_17 (fun H locs hP hD hS => ?_)
    refine lv_bipush (v := (-6 : Int32)) hx hb dX6_soonest_20 (by decide) ?_
    refine lv_istore_n (lv' := [(2, .int (-6 : Int32)), (0, .ref a_t), (1, .int p1)]) hx hb dX6_soonest_22 rfl hl (by decide) rfl (fun ls hl => ?_)
    refine lv_bipush (v := (-6 : Int32)) hx hb dX6_soonest_23 (by decide) ?_
    refine lv_istore_n (lv' := [(3, .int (-6 : Int32)), (2, .int (-6 : Int32)), (0, .ref a_t), (1, .int p1)]) hx hb dX6_soonest_25 rfl hl (by decide) rfl (fun ls hl => ?_)
    refine lv_iconst (v := (0 : Int32)) hx hb dX6_soonest_26 (by decide) ?_
    refine lv_istore (lv' := [(4, .int (0 : Int32)), (3, .int (-6 : Int32)), (2, .int (-6 : Int32)), (0, .ref a_t), (1, .int p1)]) hx hb dX6_soonest_27 hl (by decide) rfl (fun ls hl => ?_)
    exact L29 FU (-6 : Int32) (-6 : Int32) (0 : Int32) r17.1 r17.2.1 r17.2.2 hf H locs ls hP hD hS (lv_sub hl [3, 4, 2, 1, 0] rfl)
  · have hf := if_f c_6 hf
    refine lv_bipush (v := (-3 : Int32)) hx hb dX6_soonest_9 (by decide) ?_
    exact fin' _ _ _ _ hf 11 ls H locs dX6_soonest_11 rfl hP hD hS
abbrev wd_X6_seen (E : EN) (a_t : Nat) (a_t_sight : Nat) (x_t_signs : Int32) (w_t_pad : Value) (x_t_places : Int32) (w_t_page : Value) (x_t_begins : Int32) (x_t_court : Int32) (x_t_allowed : Int32) (w_t_weight : Value) (x_t_sights : Int32) (w_t_count : Value) (x_t_opens : Int32) (w_t_open : Value) (w_t_behind : Value) (w_t_outs : Value) (w_t_pack : Value) (w_t_image : Value) (w_t_isKept : Value) (x_t_sight : Nat → Int32) : va_W := [(a_t, e_O 6 [.int x_t_signs, w_t_pad, .int x_t_places, w_t_page, .int x_t_begins, .int x_t_court, .int x_t_allowed, w_t_weight, .int x_t_sights, .ref a_t_sight, w_t_count, .int x_t_opens, w_t_open, w_t_behind, w_t_outs, w_t_pack, w_t_image, w_t_isKept]), (a_t_sight, e_I E 12 x_t_sight)]
def f_X6_seen (p1 : Int32) (p2 : Int32) (x_t_places : Int32) (x_t_sights : Int32) (x_t_sight : Nat → Int32) : Option (Int32 × Int32 × (Nat → Int32)) :=
  Option.bind (f_X6_isPlace p1 x_t_places) (fun r2 =>
  if r2 = 0 then
    some ((-1 : Int32), x_t_sights, x_t_sight)
  else
    Option.bind (f_X6_isPlace p2 x_t_places) (fun r10 =>
    if r10 = 0 then
      some ((-1 : Int32), x_t_sights, x_t_sight)
    else
      if x_t_sights = (6 : Int32) then
        some ((-4 : Int32), x_t_sights, x_t_sight)
      else
        ck (inB ((2 : Int32) * x_t_sights) 12) (
        ck (inB (((2 : Int32) * x_t_sights) + (1 : Int32)) 12) (
        some ((x_t_sights + (1 : Int32)), (x_t_sights + (1 : Int32)), (upd (upd x_t_sight (ix ((2 : Int32) * x_t_sights)) p1) (ix (((2 : Int32) * x_t_sights) + (1 : Int32))) p2))))))
set_option maxHeartbeats 4000000 in
set_option maxRecDepth 100000 in
theorem c_X6_seen (l : Launch) (E : EN) (a_t a_t_sight : Nat) (x_t_signs : Int32) (w_t_pad : Value) (x_t_places : Int32) (w_t_page : Value) (x_t_begins : Int32) (x_t_court : Int32) (x_t_allowed : Int32) (w_t_weight : Value) (x_t_sights : Int32) (w_t_count : Value) (x_t_opens : Int32) (w_t_open : Value) (w_t_behind : Value) (w_t_outs : Value) (w_t_pack : Value) (w_t_image : Value) (w_t_isKept : Value) (x_t_sight : Nat → Int32) (p1 : Int32) (p2 : Int32) (res : Int32 × Int32 × (Nat → Int32)) (hf : f_X6_seen p1 p2 x_t_places x_t_sights x_t_sight = some res) : CtI l yX6_seen cX6_seen 3 .int 2 43 E [.ref a_t, .int p1, .int p2] (wd_X6_seen E a_t a_t_sight x_t_signs w_t_pad x_t_places w_t_page x_t_begins x_t_court x_t_allowed w_t_weight x_t_sights w_t_count x_t_opens w_t_open w_t_behind w_t_outs w_t_pack w_t_image w_t_isKept x_t_sight) (wd_X6_seen E a_t a_t_sight x_t_signs w_t_pad x_t_places w_t_page x_t_begins x_t_court x_t_allowed w_t_weight res.2.1 w_t_count x_t_opens w_t_open w_t_behind w_t_outs w_t_pack w_t_image w_t_isKept res.2.2) res.1 := by
  refine CtI.of RX6 (by decide) rfl (Nat.le_of_ble_eq_true rfl) ?_
  intro p e s m below meth c A Q ls X hA hP hD hl fin
  have hx := X.1
  have hb := X.2.1
  have hl : lv_has ls 3 [(0, .ref a_t), (1, .int p1), (2, .int p2)] := hl
  have fin' : ∀ (fr0 : Int32) (fr1 : Int32) (fr2 : (Nat → Int32)), some (fr0, fr1, fr2) = some res → ∀ (pc : Nat) (ls : Array Slot) (H : Heap) (locs : List Loc), decode cX6_seen pc = .ok (.ireturn, 1) → narrow .int (.int fr0) = .int fr0 → va_P E.1 vwCl (wd_X6_seen E a_t a_t_sight x_t_signs w_t_pad x_t_places w_t_page x_t_begins x_t_court x_t_allowed w_t_weight fr1 w_t_count x_t_opens w_t_open w_t_behind w_t_outs w_t_pack w_t_image w_t_isKept fr2) H → va_D A (wd_X6_seen E a_t a_t_sight x_t_signs w_t_pad x_t_places w_t_page x_t_begins x_t_court x_t_allowed w_t_weight fr1 w_t_count x_t_opens w_t_open w_t_behind w_t_outs w_t_pack w_t_image w_t_isKept fr2) → va_S A s.heap H locs → W p l e (rmm 2 43) s m ([.ref a_t, .int p1, .int p2] : List Value).toArray below meth c H locs 0 0 Q (F0 m pc ls [.int fr0]) := by
    intro fr0 fr1 fr2 he
    cases he
    exact fin
  have hS : va_S A s.heap s.heap [] := va_S.rf
  obtain ⟨H, hH9⟩ : ∃ z, z = s.heap := ⟨_, rfl⟩
  obtain ⟨locs, hL9⟩ : ∃ z : List Loc, z = [] := ⟨_, rfl⟩
  rw [← hL9]
  rw [← hL9] at hS
  have hP : va_P E.1 vwCl (wd_X6_seen E a_t a_t_sight x_t_signs w_t_pad x_t_places w_t_page x_t_begins x_t_court x_t_allowed w_t_weight x_t_sights w_t_count x_t_opens w_t_open w_t_behind w_t_outs w_t_pack w_t_image w_t_isKept x_t_sight) H := by rw [hH9]; exact hP
  have hS : va_S A s.heap H locs := by rw [hH9]; exact hS
  suffices hgoal : W p l e (rmm 2 43) s m ([.ref a_t, .int p1, .int p2] : List Value).toArray below meth c H locs 0 0 Q (F0 m 0 ls []) by rw [hH9] at hgoal; exact hgoal
  rw [f_X6_seen] at hf
  refine lv_aload_n hx hb dX6_seen_0 rfl (lv_at hl 0 rfl) ?_
  refine lv_iload_n hx hb dX6_seen_1 rfl (lv_at hl 1 rfl) ?_
  obtain ⟨r2, hc2, hf⟩ := bd_some hf
  refine cV_I X hA hP hD hS hl.1 (c_X6_isPlace l E a_t x_t_signs w_t_pad x_t_places w_t_page x_t_begins x_t_court x_t_allowed w_t_weight x_t_sights (.ref a_t_sight) w_t_count x_t_opens w_t_open w_t_behind w_t_outs w_t_pack w_t_image w_t_isKept p1 r2 hc2) 1 k_738 mw_X6_isPlace hd_X6_isPlace ⟨Nat.le_of_ble_eq_true rfl, Nat.le_of_ble_eq_true rfl⟩ [0] [1] [1, 0] rfl rfl (wr := [1].filterMap (fun i => (wd_X6_seen E a_t a_t_sight x_t_signs w_t_pad x_t_places w_t_page x_t_begins x_t_court x_t_allowed w_t_weight x_t_sights w_t_count x_t_opens w_t_open w_t_behind w_t_outs w_t_pack w_t_image w_t_isKept x_t_sight)[i]?)) rfl rfl rfl 6 0 rfl rfl rfl rfl rfl (Nat.le_of_ble_eq_true rfl) rfl (ws' := (wd_X6_seen E a_t a_t_sight x_t_signs w_t_pad x_t_places w_t_page x_t_begins x_t_court x_t_allowed w_t_weight x_t_sights w_t_count x_t_opens w_t_open w_t_behind w_t_outs w_t_pack w_t_image w_t_isKept x_t_sight)) rfl ⟨Nat.le_of_ble_eq_true rfl, Nat.le_of_ble_eq_true rfl⟩ dX6_seen_2 (fun H locs hP hD hS => ?_)
  refine lv_if_eq (tgt := 16) hx hb dX6_seen_5 (by decide) (fun c_5 => ?_) (fun c_5 => ?_)
  · have hf := if_t c_5 hf
    refine lv_iconst (v := (-1 : Int32)) hx hb dX6_seen_16 (by decide) ?_
    exact fin' _ _ _ hf 17 ls H locs dX6_seen_17 rfl hP hD hS
  · have hf := if_f c_5 hf
    refine lv_aload_n hx hb dX6_seen_8 rfl (lv_at hl 0 rfl) ?_
    refine lv_iload_n hx hb dX6_seen_9 rfl (lv_at hl 2 rfl) ?_
    obtain ⟨r10, hc10, hf⟩ := bd_some hf
    refine cV_I X hA hP hD hS hl.1 (c_X6_isPlace l E a_t x_t_signs w_t_pad x_t_places w_t_page x_t_begins x_t_court x_t_allowed w_t_weight x_t_sights (.ref a_t_sight) w_t_count x_t_opens w_t_open w_t_behind w_t_outs w_t_pack w_t_image w_t_isKept p2 r10 hc10) 1 k_738 mw_X6_isPlace hd_X6_isPlace ⟨Nat.le_of_ble_eq_true rfl, Nat.le_of_ble_eq_true rfl⟩ [0] [1] [1, 0] rfl rfl (wr := [1].filterMap (fun i => (wd_X6_seen E a_t a_t_sight x_t_signs w_t_pad x_t_places w_t_page x_t_begins x_t_court x_t_allowed w_t_weight x_t_sights w_t_count x_t_opens w_t_open w_t_behind w_t_outs w_t_pack w_t_image w_t_isKept x_t_sight)[i]?)) rfl rfl rfl 6 0 rfl rfl rfl rfl rfl (Nat.le_of_ble_eq_true rfl) rfl (ws' := (wd_X6_seen E a_t a_t_sight x_t_signs w_t_pad x_t_places w_t_page x_t_begins x_t_court x_t_allowed w_t_weight x_t_sights w_t_count x_t_opens w_t_open w_t_behind w_t_outs w_t_pack w_t_image w_t_isKept x_t_sight)) rfl ⟨Nat.le_of_ble_eq_true rfl, Nat.le_of_ble_eq_true rfl⟩ dX6_seen_10 (fun H locs hP hD hS => ?_)
    refine lv_if_ne (tgt := 18) hx hb dX6_seen_13 (by decide) (fun c_13 => ?_) (fun c_13 => ?_)
    · have hf := if_f c_13 hf
      refine lv_aload_n hx hb dX6_seen_18 rfl (lv_at hl 0 rfl) ?_
      refine gf_X6_72 X hP 0 rfl rfl dX6_seen_19 ?_
      refine lv_bipush (v := (6 : Int32)) hx hb dX6_seen_22 (by decide) ?_
      refine lv_icmp_ne (tgt := 30) hx hb dX6_seen_24 (by decide) (fun c_24 => ?_) (fun c_24 => ?_)
      · have hf := if_f c_24 hf
        refine lv_aload_n hx hb dX6_seen_30 rfl (lv_at hl 0 rfl) ?_
        refine gf_X6_32 X hP 0 rfl rfl dX6_seen_31 ?_
        refine lv_iconst (v := (2 : Int32)) hx hb dX6_seen_34 (by decide) ?_
        refine lv_aload_n hx hb dX6_seen_35 rfl (lv_at hl 0 rfl) ?_
        refine gf_X6_72 X hP 0 rfl rfl dX6_seen_36 ?_
        refine lv_imul hx hb dX6_seen_39 ?_
        refine lv_iload_n hx hb dX6_seen_40 rfl (lv_at hl 1 rfl) ?_
        obtain ⟨hi41, hf⟩ := ck_some hf
        refine r_iast X hP hD hS 1 rfl hi41 (ws' := (wd_X6_seen E a_t a_t_sight x_t_signs w_t_pad x_t_places w_t_page x_t_begins x_t_court x_t_allowed w_t_weight x_t_sights w_t_count x_t_opens w_t_open w_t_behind w_t_outs w_t_pack w_t_image w_t_isKept (upd x_t_sight (ix ((2 : Int32) * x_t_sights)) p1))) rfl dX6_seen_41 (fun H locs hP hD hS => ?_)
        refine lv_aload_n hx hb dX6_seen_42 rfl (lv_at hl 0 rfl) ?_
        refine gf_X6_32 X hP 0 rfl rfl dX6_seen_43 ?_
        refine lv_iconst (v := (2 : Int32)) hx hb dX6_seen_46 (by decide) ?_
        refine lv_aload_n hx hb dX6_seen_47 rfl (lv_at hl 0 rfl) ?_
        refine gf_X6_72 X hP 0 rfl rfl dX6_seen_48 ?_
        refine lv_imul hx hb dX6_seen_51 ?_
        refine lv_iconst (v := (1 : Int32)) hx hb dX6_seen_52 (by decide) ?_
        refine lv_iadd hx hb dX6_seen_53 ?_
        refine lv_iload_n hx hb dX6_seen_54 rfl (lv_at hl 2 rfl) ?_
        obtain ⟨hi55, hf⟩ := ck_some hf
        refine r_iast X hP hD hS 1 rfl hi55 (ws' := (wd_X6_seen E a_t a_t_sight x_t_signs w_t_pad x_t_places w_t_page x_t_begins x_t_court x_t_allowed w_t_weight x_t_sights w_t_count x_t_opens w_t_open w_t_behind w_t_outs w_t_pack w_t_image w_t_isKept (upd (upd x_t_sight (ix ((2 : Int32) * x_t_sights)) p1) (ix (((2 : Int32) * x_t_sights) + (1 : Int32))) p2))) rfl dX6_seen_55 (fun H locs hP hD hS => ?_)
        refine lv_aload_n hx hb dX6_seen_56 rfl (lv_at hl 0 rfl) ?_
        refine lv_dup hx hb dX6_seen_57 rfl ?_
        refine gf_X6_72 X hP 0 rfl rfl dX6_seen_58 ?_
        refine lv_iconst (v := (1 : Int32)) hx hb dX6_seen_61 (by decide) ?_
        refine lv_iadd hx hb dX6_seen_62 ?_
        refine pf_X6_72 X hP hD hS 0 rfl (Nat.le_of_ble_eq_true rfl) (ws' := (wd_X6_seen E a_t a_t_sight x_t_signs w_t_pad x_t_places w_t_page x_t_begins x_t_court x_t_allowed w_t_weight (x_t_sights + (1 : Int32)) w_t_count x_t_opens w_t_open w_t_behind w_t_outs w_t_pack w_t_image w_t_isKept (upd (upd x_t_sight (ix ((2 : Int32) * x_t_sights)) p1) (ix (((2 : Int32) * x_t_sights) + (1 : Int32))) p2))) rfl dX6_seen_63 (fun H locs hP hD hS => ?_)
        refine lv_aload_n hx hb dX6_seen_66 rfl (lv_at hl 0 rfl) ?_
        refine gf_X6_72 X hP 0 rfl rfl dX6_seen_67 ?_
        exact fin' _ _ _ hf 70 ls H locs dX6_seen_70 rfl hP hD hS
      · have hf := if_t c_24 hf
        refine lv_bipush (v := (-4 : Int32)) hx hb dX6_seen_27 (by decide) ?_
        exact fin' _ _ _ hf 29 ls H locs dX6_seen_29 rfl hP hD hS
    · have hf := if_t c_13 hf
      refine lv_iconst (v := (-1 : Int32)) hx hb dX6_seen_16 (by decide) ?_
      exact fin' _ _ _ hf 17 ls H locs dX6_seen_17 rfl hP hD hS
abbrev wd_X6_forget (E : EN) (a_t : Nat) (x_t_signs : Int32) (w_t_pad : Value) (x_t_places : Int32) (w_t_page : Value) (x_t_begins : Int32) (x_t_court : Int32) (x_t_allowed : Int32) (w_t_weight : Value) (x_t_sights : Int32) (w_t_sight : Value) (w_t_count : Value) (x_t_opens : Int32) (w_t_open : Value) (w_t_behind : Value) (w_t_outs : Value) (w_t_pack : Value) (w_t_image : Value) (w_t_isKept : Value) : va_W := [(a_t, e_O 6 [.int x_t_signs, w_t_pad, .int x_t_places, w_t_page, .int x_t_begins, .int x_t_court, .int x_t_allowed, w_t_weight, .int x_t_sights, w_t_sight, w_t_count, .int x_t_opens, w_t_open, w_t_behind, w_t_outs, w_t_pack, w_t_image, w_t_isKept])]
def f_X6_forget (x_t_sights : Int32) : Option (Int32 × Int32) :=
  some (x_t_sights, (0 : Int32))
set_option maxHeartbeats 4000000 in
set_option maxRecDepth 100000 in
theorem c_X6_forget (l : Launch) (E : EN) (a_t : Nat) (x_t_signs : Int32) (w_t_pad : Value) (x_t_places : Int32) (w_t_page : Value) (x_t_begins : Int32) (x_t_court : Int32) (x_t_allowed : Int32) (w_t_weight : Value) (x_t_sights : Int32) (w_t_sight : Value) (w_t_count : Value) (x_t_opens : Int32) (w_t_open : Value) (w_t_behind : Value) (w_t_outs : Value) (w_t_pack : Value) (w_t_image : Value) (w_t_isKept : Value)  (res : Int32 × Int32) (hf : f_X6_forget x_t_sights = some res) : CtI l yX6_forget cX6_forget 2 .int 0 0 E [.ref a_t] (wd_X6_forget E a_t x_t_signs w_t_pad x_t_places w_t_page x_t_begins x_t_court x_t_allowed w_t_weight x_t_sights w_t_sight w_t_count x_t_opens w_t_open w_t_behind w_t_outs w_t_pack w_t_image w_t_isKept) (wd_X6_forget E a_t x_t_signs w_t_pad x_t_places w_t_page x_t_begins x_t_court x_t_allowed w_t_weight res.2 w_t_sight w_t_count x_t_opens w_t_open w_t_behind w_t_outs w_t_pack w_t_image w_t_isKept) res.1 := by
  refine CtI.of RX6 (by decide) rfl (Nat.le_of_ble_eq_true rfl) ?_
  intro p e s m below meth c A Q ls X hA hP hD hl fin
  have hx := X.1
  have hb := X.2.1
  have hl : lv_has ls 2 [(0, .ref a_t)] := hl
  have fin' : ∀ (fr0 : Int32) (fr1 : Int32), some (fr0, fr1) = some res → ∀ (pc : Nat) (ls : Array Slot) (H : Heap) (locs : List Loc), decode cX6_forget pc = .ok (.ireturn, 1) → narrow .int (.int fr0) = .int fr0 → va_P E.1 vwCl (wd_X6_forget E a_t x_t_signs w_t_pad x_t_places w_t_page x_t_begins x_t_court x_t_allowed w_t_weight fr1 w_t_sight w_t_count x_t_opens w_t_open w_t_behind w_t_outs w_t_pack w_t_image w_t_isKept) H → va_D A (wd_X6_forget E a_t x_t_signs w_t_pad x_t_places w_t_page x_t_begins x_t_court x_t_allowed w_t_weight fr1 w_t_sight w_t_count x_t_opens w_t_open w_t_behind w_t_outs w_t_pack w_t_image w_t_isKept) → va_S A s.heap H locs → W p l e (rmm 0 0) s m ([.ref a_t] : List Value).toArray below meth c H locs 0 0 Q (F0 m pc ls [.int fr0]) := by
    intro fr0 fr1 he
    cases he
    exact fin
  have hS : va_S A s.heap s.heap [] := va_S.rf
  obtain ⟨H, hH9⟩ : ∃ z, z = s.heap := ⟨_, rfl⟩
  obtain ⟨locs, hL9⟩ : ∃ z : List Loc, z = [] := ⟨_, rfl⟩
  rw [← hL9]
  rw [← hL9] at hS
  have hP : va_P E.1 vwCl (wd_X6_forget E a_t x_t_signs w_t_pad x_t_places w_t_page x_t_begins x_t_court x_t_allowed w_t_weight x_t_sights w_t_sight w_t_count x_t_opens w_t_open w_t_behind w_t_outs w_t_pack w_t_image w_t_isKept) H := by rw [hH9]; exact hP
  have hS : va_S A s.heap H locs := by rw [hH9]; exact hS
  suffices hgoal : W p l e (rmm 0 0) s m ([.ref a_t] : List Value).toArray below meth c H locs 0 0 Q (F0 m 0 ls []) by rw [hH9] at hgoal; exact hgoal
  rw [f_X6_forget] at hf
  refine lv_aload_n hx hb dX6_forget_0 rfl (lv_at hl 0 rfl) ?_
  refine gf_X6_72 X hP 0 rfl rfl dX6_forget_1 ?_
  refine lv_istore_n (lv' := [(1, .int x_t_sights), (0, .ref a_t)]) hx hb dX6_forget_4 rfl hl (by decide) rfl (fun ls hl => ?_)
  refine lv_aload_n hx hb dX6_forget_5 rfl (lv_at hl 1 rfl) ?_
  refine lv_iconst (v := (0 : Int32)) hx hb dX6_forget_6 (by decide) ?_
  refine pf_X6_72 X hP hD hS 0 rfl (Nat.le_of_ble_eq_true rfl) (ws' := (wd_X6_forget E a_t x_t_signs w_t_pad x_t_places w_t_page x_t_begins x_t_court x_t_allowed w_t_weight (0 : Int32) w_t_sight w_t_count x_t_opens w_t_open w_t_behind w_t_outs w_t_pack w_t_image w_t_isKept)) rfl dX6_forget_7 (fun H locs hP hD hS => ?_)
  refine lv_iload_n hx hb dX6_forget_10 rfl (lv_at hl 0 rfl) ?_
  exact fin' _ _ hf 11 ls H locs dX6_forget_11 rfl hP hD hS
abbrev wd_X6_areSeen (E : EN) (a_t : Nat) (a_t_sight : Nat) (a_t_count : Nat) (x_t_signs : Int32) (w_t_pad : Value) (x_t_places : Int32) (w_t_page : Value) (x_t_begins : Int32) (x_t_court : Int32) (x_t_allowed : Int32) (w_t_weight : Value) (x_t_sights : Int32) (x_t_opens : Int32) (w_t_open : Value) (w_t_behind : Value) (w_t_outs : Value) (w_t_pack : Value) (w_t_image : Value) (w_t_isKept : Value) (x_t_sight : Nat → Int32) (x_t_count : Nat → Int32) : va_W := [(a_t, e_O 6 [.int x_t_signs, w_t_pad, .int x_t_places, w_t_page, .int x_t_begins, .int x_t_court, .int x_t_allowed, w_t_weight, .int x_t_sights, .ref a_t_sight, .ref a_t_count, .int x_t_opens, w_t_open, w_t_behind, w_t_outs, w_t_pack, w_t_image, w_t_isKept]), (a_t_sight, e_I E 12 x_t_sight), (a_t_count, e_I E 40 x_t_count)]
def f_X6_areSeen_4 (x_t_places : Int32) (x_t_sights : Int32) (x_t_sight : Nat → Int32) (x_t_count : Nat → Int32)  : Nat → Int32 → Int32 → Option (Int32)
  | 0, _, _ => none
  | n_ + 1, v1, v2 =>
    if x_t_sights ≤ v2 then
      ck (isB v1) (
      some v1)
    else
      if v1 = 0 then
        f_X6_areSeen_4 x_t_places x_t_sights x_t_sight x_t_count n_ (0 : Int32) (v2 + (1 : Int32))
      else
        ck (inB ((2 : Int32) * v2) 12) (
        Option.bind (f_X6_outOf (x_t_sight (ix ((2 : Int32) * v2))) x_t_places x_t_count) (fun r25 =>
        ck (inB (((2 : Int32) * v2) + (1 : Int32)) 12) (
        if r25 = (x_t_sight (ix (((2 : Int32) * v2) + (1 : Int32)))) then
          f_X6_areSeen_4 x_t_places x_t_sights x_t_sight x_t_count n_ (1 : Int32) (v2 + (1 : Int32))
        else
          f_X6_areSeen_4 x_t_places x_t_sights x_t_sight x_t_count n_ (0 : Int32) (v2 + (1 : Int32)))))
def f_X6_areSeen (x_t_places : Int32) (x_t_sights : Int32) (x_t_sight : Nat → Int32) (x_t_count : Nat → Int32) : Option (Int32) :=
  f_X6_areSeen_4 x_t_places x_t_sights x_t_sight x_t_count FU (1 : Int32) (0 : Int32)
set_option maxHeartbeats 4000000 in
set_option maxRecDepth 100000 in
theorem c_X6_areSeen (l : Launch) (E : EN) (a_t a_t_sight a_t_count : Nat) (x_t_signs : Int32) (w_t_pad : Value) (x_t_places : Int32) (w_t_page : Value) (x_t_begins : Int32) (x_t_court : Int32) (x_t_allowed : Int32) (w_t_weight : Value) (x_t_sights : Int32) (x_t_opens : Int32) (w_t_open : Value) (w_t_behind : Value) (w_t_outs : Value) (w_t_pack : Value) (w_t_image : Value) (w_t_isKept : Value) (x_t_sight : Nat → Int32) (x_t_count : Nat → Int32)  (res : Int32) (hf : f_X6_areSeen x_t_places x_t_sights x_t_sight x_t_count = some res) : CtI l yX6_areSeen cX6_areSeen 3 .boolean 1 22 E [.ref a_t] (wd_X6_areSeen E a_t a_t_sight a_t_count x_t_signs w_t_pad x_t_places w_t_page x_t_begins x_t_court x_t_allowed w_t_weight x_t_sights x_t_opens w_t_open w_t_behind w_t_outs w_t_pack w_t_image w_t_isKept x_t_sight x_t_count) (wd_X6_areSeen E a_t a_t_sight a_t_count x_t_signs w_t_pad x_t_places w_t_page x_t_begins x_t_court x_t_allowed w_t_weight x_t_sights x_t_opens w_t_open w_t_behind w_t_outs w_t_pack w_t_image w_t_isKept x_t_sight x_t_count) res := by
  refine CtI.of RX6 (by decide) rfl (Nat.le_of_ble_eq_true rfl) ?_
  intro p e s m below meth c A Q ls X hA hP hD hl fin
  have hx := X.1
  have hb := X.2.1
  have hl : lv_has ls 3 [(0, .ref a_t)] := hl
  have fin' : ∀ (fr0 : Int32), some fr0 = some res → ∀ (pc : Nat) (ls : Array Slot) (H : Heap) (locs : List Loc), decode cX6_areSeen pc = .ok (.ireturn, 1) → narrow .boolean (.int fr0) = .int fr0 → va_P E.1 vwCl (wd_X6_areSeen E a_t a_t_sight a_t_count x_t_signs w_t_pad x_t_places w_t_page x_t_begins x_t_court x_t_allowed w_t_weight x_t_sights x_t_opens w_t_open w_t_behind w_t_outs w_t_pack w_t_image w_t_isKept x_t_sight x_t_count) H → va_D A (wd_X6_areSeen E a_t a_t_sight a_t_count x_t_signs w_t_pad x_t_places w_t_page x_t_begins x_t_court x_t_allowed w_t_weight x_t_sights x_t_opens w_t_open w_t_behind w_t_outs w_t_pack w_t_image w_t_isKept x_t_sight x_t_count) → va_S A s.heap H locs → W p l e (rmm 1 22) s m ([.ref a_t] : List Value).toArray below meth c H locs 0 0 Q (F0 m pc ls [.int fr0]) := by
    intro fr0 he
    cases he
    exact fin
  have L4 : ∀ (n4 : Nat) (v1 : Int32) (v2 : Int32), f_X6_areSeen_4 x_t_places x_t_sights x_t_sight x_t_count n4 v1 v2 = some res → ∀ (H : Heap) (locs : List Loc) (ls : Array Slot), va_P E.1 vwCl (wd_X6_areSeen E a_t a_t_sight a_t_count x_t_signs w_t_pad x_t_places w_t_page x_t_begins x_t_court x_t_allowed w_t_weight x_t_sights x_t_opens w_t_open w_t_behind w_t_outs w_t_pack w_t_image w_t_isKept x_t_sight x_t_count) H → va_D A (wd_X6_areSeen E a_t a_t_sight a_t_count x_t_signs w_t_pad x_t_places w_t_page x_t_begins x_t_court x_t_allowed w_t_weight x_t_sights x_t_opens w_t_open w_t_behind w_t_outs w_t_pack w_t_image w_t_isKept x_t_sight x_t_count) → va_S A s.heap H locs → lv_has ls 3 [(0, .ref a_t), (1, .int v1), (2, .int v2)] → W p l e (rmm 1 22) s m ([.ref a_t] : List Value).toArray below meth c H locs 0 0 Q (F0 m 4 ls []) := by
    intro n4
    induction n4 with
    | zero => intro v1 v2 hf; rw [f_X6_areSeen_4] at hf; cases hf
    | succ n4 ih4 =>
      intro v1 v2 hf H locs ls hP hD hS hl
      rw [f_X6_areSeen_4] at hf
      refine lv_iload_n hx hb dX6_areSeen_4 rfl (lv_at hl 2 rfl) ?_
      refine lv_aload_n hx hb dX6_areSeen_5 rfl (lv_at hl 0 rfl) ?_
      refine gf_X6_72 X hP 0 rfl rfl dX6_areSeen_6 ?_
      refine lv_icmp_ge (tgt := 53) hx hb dX6_areSeen_9 (by decide) (fun c_9 => ?_) (fun c_9 => ?_)
      · have hf := if_t c_9 hf
        refine lv_iload_n hx hb dX6_areSeen_53 rfl (lv_at hl 1 rfl) ?_
        obtain ⟨hz54, hf⟩ := ck_some hf
        exact fin' _ hf 54 ls H locs dX6_areSeen_54 (isB_nar hz54) hP hD hS
      · have hf := if_f c_9 hf
        refine lv_iload_n hx hb dX6_areSeen_12 rfl (lv_at hl 1 rfl) ?_
        refine lv_if_eq (tgt := 45) hx hb dX6_areSeen_13 (by decide) (fun c_13 => ?_) (fun c_13 => ?_)
        · have hf := if_t c_13 hf
          refine lv_iconst (v := (0 : Int32)) hx hb dX6_areSeen_45 (by decide) ?_
          refine lv_istore_n (lv' := [(1, .int (0 : Int32)), (0, .ref a_t), (2, .int v2)]) hx hb dX6_areSeen_46 rfl hl (by decide) rfl (fun ls hl => ?_)
          refine lv_iinc (v := (v2 + (1 : Int32))) (lv' := [(2, .int (v2 + (1 : Int32))), (1, .int (0 : Int32)), (0, .ref a_t)]) hx hb dX6_areSeen_47 hl (k := 2) rfl rfl (by decide) rfl (fun ls hl => ?_)
          refine lv_goto (tgt := 4) hx hb dX6_areSeen_50 (by decide) ?_
          exact ih4 (0 : Int32) (v2 + (1 : Int32)) hf H locs ls hP hD hS (lv_sub hl [2, 1, 0] rfl)
        · have hf := if_f c_13 hf
          refine lv_aload_n hx hb dX6_areSeen_16 rfl (lv_at hl 0 rfl) ?_
          refine lv_aload_n hx hb dX6_areSeen_17 rfl (lv_at hl 0 rfl) ?_
          refine gf_X6_32 X hP 0 rfl rfl dX6_areSeen_18 ?_
          refine lv_iconst (v := (2 : Int32)) hx hb dX6_areSeen_21 (by decide) ?_
          refine lv_iload_n hx hb dX6_areSeen_22 rfl (lv_at hl 2 rfl) ?_
          refine lv_imul hx hb dX6_areSeen_23 ?_
          obtain ⟨hi24, hf⟩ := ck_some hf
          refine r_iald X hP 1 rfl hi24 dX6_areSeen_24 ?_
          obtain ⟨r25, hc25, hf⟩ := bd_some hf
          refine cV_I X hA hP hD hS hl.1 (c_X6_outOf l E a_t a_t_count x_t_signs w_t_pad x_t_places w_t_page x_t_begins x_t_court x_t_allowed w_t_weight x_t_sights (.ref a_t_sight) x_t_opens w_t_open w_t_behind w_t_outs w_t_pack w_t_image w_t_isKept x_t_count (x_t_sight (ix ((2 : Int32) * v2))) r25 hc25) 1 k_761 mw_X6_outOf hd_X6_outOf ⟨Nat.le_of_ble_eq_true rfl, Nat.le_of_ble_eq_true rfl⟩ [0, 2] [1] [1, 0, 2] rfl rfl (wr := [1].filterMap (fun i => (wd_X6_areSeen E a_t a_t_sight a_t_count x_t_signs w_t_pad x_t_places w_t_page x_t_begins x_t_court x_t_allowed w_t_weight x_t_sights x_t_opens w_t_open w_t_behind w_t_outs w_t_pack w_t_image w_t_isKept x_t_sight x_t_count)[i]?)) rfl rfl rfl 6 0 rfl rfl rfl rfl rfl (Nat.le_of_ble_eq_true rfl) rfl (ws' := (wd_X6_areSeen E a_t a_t_sight a_t_count x_t_signs w_t_pad x_t_places w_t_page x_t_begins x_t_court x_t_allowed w_t_weight x_t_sights x_t_opens w_t_open w_t_behind w_t_outs w_t_pack w_t_image w_t_isKept x_t_sight x_t_count)) rfl ⟨Nat.le_of_ble_eq_true rfl, Nat.le_of_ble_eq_true rfl⟩ dX6_areSeen_25 (fun H locs hP hD hS => ?_)
          refine lv_aload_n hx hb dX6_areSeen_28 rfl (lv_at hl 0 rfl) ?_
          refine gf_X6_32 X hP 0 rfl rfl dX6_areSeen_29 ?_
          refine lv_iconst (v := (2 : Int32)) hx hb dX6_areSeen_32 (by decide) ?_
          refine lv_iload_n hx hb dX6_areSeen_33 rfl (lv_at hl 2 rfl) ?_
          refine lv_imul hx hb dX6_areSeen_34 ?_
          refine lv_iconst (v := (1 : Int32)) hx hb dX6_areSeen_35 (by decide) ?_
          refine lv_iadd hx hb dX6_areSeen_36 ?_
          obtain ⟨hi37, hf⟩ := ck_some hf
          refine r_iald X hP 1 rfl hi37 dX6_areSeen_37 ?_
          refine lv_icmp_ne (tgt := 45) hx hb dX6_areSeen_38 (by decide) (fun c_38 => ?_) (fun c_38 => ?_)
          · have hf := if_f c_38 hf
            refine lv_iconst (v := (0 : Int32)) hx hb dX6_areSeen_45 (by decide) ?_
            refine lv_istore_n (lv' := [(1, .int (0 : Int32)), (0, .ref a_t), (2, .int v2)]) hx hb dX6_areSeen_46 rfl hl (by decide) rfl (fun ls hl => ?_)
            refine lv_iinc (v := (v2 + (1 : Int32))) (lv' := [(2, .int (v2 + (1 : Int32))), (1, .int (0 : Int32)), (0, .ref a_t)]) hx hb dX6_areSeen_47 hl (k := 2) rfl rfl (by decide) rfl (fun ls hl => ?_)
            refine lv_goto (tgt := 4) hx hb dX6_areSeen_50 (by decide) ?_
            exact ih4 (0 : Int32) (v2 + (1 : Int32)) hf H locs ls hP hD hS (lv_sub hl [2, 1, 0] rfl)
          · have hf := if_t c_38 hf
            refine lv_iconst (v := (1 : Int32)) hx hb dX6_areSeen_41 (by decide) ?_
            refine lv_goto (tgt := 46) hx hb dX6_areSeen_42 (by decide) ?_
            refine lv_istore_n (lv' := [(1, .int (1 : Int32)), (0, .ref a_t), (2, .int v2)]) hx hb dX6_areSeen_46 rfl hl (by decide) rfl (fun ls hl => ?_)
            refine lv_iinc (v := (v2 + (1 : Int32))) (lv' := [(2, .int (v2 + (1 : Int32))), (1, .int (1 : Int32)), (0, .ref a_t)]) hx hb dX6_areSeen_47 hl (k := 2) rfl rfl (by decide) rfl (fun ls hl => ?_)
            refine lv_goto (tgt := 4) hx hb dX6_areSeen_50 (by decide) ?_
            exact ih4 (1 : Int32) (v2 + (1 : Int32)) hf H locs ls hP hD hS (lv_sub hl [2, 1, 0] rfl)
  have hS : va_S A s.heap s.heap [] := va_S.rf
  obtain ⟨H, hH9⟩ : ∃ z, z = s.heap := ⟨_, rfl⟩
  obtain ⟨locs, hL9⟩ : ∃ z : List Loc, z = [] := ⟨_, rfl⟩
  rw [← hL9]
  rw [← hL9] at hS
  have hP : va_P E.1 vwCl (wd_X6_areSeen E a_t a_t_sight a_t_count x_t_signs w_t_pad x_t_places w_t_page x_t_begins x_t_court x_t_allowed w_t_weight x_t_sights x_t_opens w_t_open w_t_behind w_t_outs w_t_pack w_t_image w_t_isKept x_t_sight x_t_count) H := by rw [hH9]; exact hP
  have hS : va_S A s.heap H locs := by rw [hH9]; exact hS
  suffices hgoal : W p l e (rmm 1 22) s m ([.ref a_t] : List Value).toArray below meth c H locs 0 0 Q (F0 m 0 ls []) by rw [hH9] at hgoal; exact hgoal
  rw [f_X6_areSeen] at hf
  refine lv_iconst (v := (1 : Int32)) hx hb dX6_areSeen_0 (by decide) ?_
  refine lv_istore_n (lv' := [(1, .int (1 : Int32)), (0, .ref a_t)]) hx hb dX6_areSeen_1 rfl hl (by decide) rfl (fun ls hl => ?_)
  refine lv_iconst (v := (0 : Int32)) hx hb dX6_areSeen_2 (by decide) ?_
  refine lv_istore_n (lv' := [(2, .int (0 : Int32)), (1, .int (1 : Int32)), (0, .ref a_t)]) hx hb dX6_areSeen_3 rfl hl (by decide) rfl (fun ls hl => ?_)
  exact L4 FU (1 : Int32) (0 : Int32) hf H locs ls hP hD hS (lv_sub hl [2, 1, 0] rfl)
abbrev wd_X6_fits (E : EN) (a_t : Nat) (a_t_page : Nat) (a_t_count : Nat) (a_t_open : Nat) (a_t_weight : Nat) (a_t_sight : Nat) (x_t_signs : Int32) (w_t_pad : Value) (x_t_places : Int32) (x_t_begins : Int32) (x_t_court : Int32) (x_t_allowed : Int32) (x_t_sights : Int32) (x_t_opens : Int32) (w_t_behind : Value) (w_t_outs : Value) (w_t_pack : Value) (w_t_image : Value) (w_t_isKept : Value) (x_t_page : Nat → Int32) (x_t_count : Nat → Int32) (x_t_open : Nat → Int32) (x_t_weight : Nat → Int32) (x_t_sight : Nat → Int32) : va_W := [(a_t, e_O 6 [.int x_t_signs, w_t_pad, .int x_t_places, .ref a_t_page, .int x_t_begins, .int x_t_court, .int x_t_allowed, .ref a_t_weight, .int x_t_sights, .ref a_t_sight, .ref a_t_count, .int x_t_opens, .ref a_t_open, w_t_behind, w_t_outs, w_t_pack, w_t_image, w_t_isKept]), (a_t_page, e_I E 40 x_t_page), (a_t_count, e_I E 40 x_t_count), (a_t_open, e_I E 5 x_t_open), (a_t_weight, e_I E 11 x_t_weight), (a_t_sight, e_I E 12 x_t_sight)]
def f_X6_fits_24 (x_t_places : Int32) (x_t_sights : Int32) (x_t_weight : Nat → Int32) (x_t_sight : Nat → Int32)  : Nat → Int32 → Int32 → Int32 → (Nat → Int32) → (Nat → Int32) → Option (Int32 × Int32 × (Nat → Int32) × (Nat → Int32))
  | 0, _, _, _, _, _ => none
  | n_ + 1, v1, v2, m_t_opens, m_t_count, m_t_open =>
    Option.bind (f_X6_codes m_t_opens) (fun r26 =>
    if r26 ≤ v2 then
      some (v1, m_t_opens, m_t_count, m_t_open)
    else
      Option.bind (f_X6_writeIn v2 m_t_opens m_t_count m_t_open x_t_weight) (fun r35 =>
      if r35.1 ≤ 0 then
        f_X6_fits_24 x_t_places x_t_sights x_t_weight x_t_sight n_ (v1 + (0 : Int32)) (v2 + (1 : Int32)) m_t_opens r35.2 m_t_open
      else
        Option.bind (f_X6_areSeen x_t_places x_t_sights x_t_sight r35.2) (fun r42 =>
        if r42 = 0 then
          f_X6_fits_24 x_t_places x_t_sights x_t_weight x_t_sight n_ (v1 + (0 : Int32)) (v2 + (1 : Int32)) m_t_opens r35.2 m_t_open
        else
          f_X6_fits_24 x_t_places x_t_sights x_t_weight x_t_sight n_ (v1 + (1 : Int32)) (v2 + (1 : Int32)) m_t_opens r35.2 m_t_open)))
def f_X6_fits (x_t_places : Int32) (x_t_court : Int32) (x_t_sights : Int32) (x_t_opens : Int32) (x_t_page : Nat → Int32) (x_t_count : Nat → Int32) (x_t_open : Nat → Int32) (x_t_weight : Nat → Int32) (x_t_sight : Nat → Int32) : Option (Int32 × Int32 × (Nat → Int32) × (Nat → Int32)) :=
  Option.bind (f_X6_many (42 : Int32) x_t_places x_t_page) (fun r3 =>
  if r3 ≤ 0 then
    Option.bind (f_X6_lay x_t_court x_t_places x_t_count x_t_page x_t_open) (fun r17 =>
    f_X6_fits_24 x_t_places x_t_sights x_t_weight x_t_sight FU (0 : Int32) (0 : Int32) r17.1 r17.2.1 r17.2.2)
  else
    some ((-3 : Int32), x_t_opens, x_t_count, x_t_open))
set_option maxHeartbeats 4000000 in
set_option maxRecDepth 100000 in
theorem c_X6_fits (l : Launch) (E : EN) (a_t a_t_page a_t_count a_t_open a_t_weight a_t_sight : Nat) (x_t_signs : Int32) (w_t_pad : Value) (x_t_places : Int32) (x_t_begins : Int32) (x_t_court : Int32) (x_t_allowed : Int32) (x_t_sights : Int32) (x_t_opens : Int32) (w_t_behind : Value) (w_t_outs : Value) (w_t_pack : Value) (w_t_image : Value) (w_t_isKept : Value) (x_t_page : Nat → Int32) (x_t_count : Nat → Int32) (x_t_open : Nat → Int32) (x_t_weight : Nat → Int32) (x_t_sight : Nat → Int32)  (res : Int32 × Int32 × (Nat → Int32) × (Nat → Int32)) (hf : f_X6_fits x_t_places x_t_court x_t_sights x_t_opens x_t_page x_t_count x_t_open x_t_weight x_t_sight = some res) : CtI l yX6_fits cX6_fits 3 .int 3 65 E [.ref a_t] (wd_X6_fits E a_t a_t_page a_t_count a_t_open a_t_weight a_t_sight x_t_signs w_t_pad x_t_places x_t_begins x_t_court x_t_allowed x_t_sights x_t_opens w_t_behind w_t_outs w_t_pack w_t_image w_t_isKept x_t_page x_t_count x_t_open x_t_weight x_t_sight) (wd_X6_fits E a_t a_t_page a_t_count a_t_open a_t_weight a_t_sight x_t_signs w_t_pad x_t_places x_t_begins x_t_court x_t_allowed x_t_sights res.2.1 w_t_behind w_t_outs w_t_pack w_t_image w_t_isKept x_t_page res.2.2.1 res.2.2.2 x_t_weight x_t_sight) res.1 := by
  refine CtI.of RX6 (by decide) rfl (Nat.le_of_ble_eq_true rfl) ?_
  intro p e s m below meth c A Q ls X hA hP hD hl fin
  have hx := X.1
  have hb := X.2.1
  have hl : lv_has ls 3 [(0, .ref a_t)] := hl
  have fin' : ∀ (fr0 : Int32) (fr1 : Int32) (fr2 : (Nat → Int32)) (fr3 : (Nat → Int32)), some (fr0, fr1, fr2, fr3) = some res → ∀ (pc : Nat) (ls : Array Slot) (H : Heap) (locs : List Loc), decode cX6_fits pc = .ok (.ireturn, 1) → narrow .int (.int fr0) = .int fr0 → va_P E.1 vwCl (wd_X6_fits E a_t a_t_page a_t_count a_t_open a_t_weight a_t_sight x_t_signs w_t_pad x_t_places x_t_begins x_t_court x_t_allowed x_t_sights fr1 w_t_behind w_t_outs w_t_pack w_t_image w_t_isKept x_t_page fr2 fr3 x_t_weight x_t_sight) H → va_D A (wd_X6_fits E a_t a_t_page a_t_count a_t_open a_t_weight a_t_sight x_t_signs w_t_pad x_t_places x_t_begins x_t_court x_t_allowed x_t_sights fr1 w_t_behind w_t_outs w_t_pack w_t_image w_t_isKept x_t_page fr2 fr3 x_t_weight x_t_sight) → va_S A s.heap H locs → W p l e (rmm 3 65) s m ([.ref a_t] : List Value).toArray below meth c H locs 0 0 Q (F0 m pc ls [.int fr0]) := by
    intro fr0 fr1 fr2 fr3 he
    cases he
    exact fin
  have L24 : ∀ (n24 : Nat) (v1 : Int32) (v2 : Int32) (m_t_opens : Int32) (m_t_count : Nat → Int32) (m_t_open : Nat → Int32), f_X6_fits_24 x_t_places x_t_sights x_t_weight x_t_sight n24 v1 v2 m_t_opens m_t_count m_t_open = some res → ∀ (H : Heap) (locs : List Loc) (ls : Array Slot), va_P E.1 vwCl (wd_X6_fits E a_t a_t_page a_t_count a_t_open a_t_weight a_t_sight x_t_signs w_t_pad x_t_places x_t_begins x_t_court x_t_allowed x_t_sights m_t_opens w_t_behind w_t_outs w_t_pack w_t_image w_t_isKept x_t_page m_t_count m_t_open x_t_weight x_t_sight) H → va_D A (wd_X6_fits E a_t a_t_page a_t_count a_t_open a_t_weight a_t_sight x_t_signs w_t_pad x_t_places x_t_begins x_t_court x_t_allowed x_t_sights m_t_opens w_t_behind w_t_outs w_t_pack w_t_image w_t_isKept x_t_page m_t_count m_t_open x_t_weight x_t_sight) → va_S A s.heap H locs → lv_has ls 3 [(0, .ref a_t), (1, .int v1), (2, .int v2)] → W p l e (rmm 3 65) s m ([.ref a_t] : List Value).toArray below meth c H locs 0 0 Q (F0 m 24 ls []) := by
    intro n24
    induction n24 with
    | zero => intro v1 v2 m_t_opens m_t_count m_t_open hf; rw [f_X6_fits_24] at hf; cases hf
    | succ n24 ih24 =>
      intro v1 v2 m_t_opens m_t_count m_t_open hf H locs ls hP hD hS hl
      rw [f_X6_fits_24] at hf
      refine lv_iload_n hx hb dX6_fits_24 rfl (lv_at hl 2 rfl) ?_
      refine lv_aload_n hx hb dX6_fits_25 rfl (lv_at hl 0 rfl) ?_
      obtain ⟨r26, hc26, hf⟩ := bd_some hf
      refine cV_I X hA hP hD hS hl.1 (c_X6_codes l E a_t x_t_signs w_t_pad x_t_places (.ref a_t_page) x_t_begins x_t_court x_t_allowed (.ref a_t_weight) x_t_sights (.ref a_t_sight) (.ref a_t_count) m_t_opens (.ref a_t_open) w_t_behind w_t_outs w_t_pack w_t_image w_t_isKept r26 hc26) 0 k_836 mw_X6_codes hd_X6_codes ⟨Nat.le_of_ble_eq_true rfl, Nat.le_of_ble_eq_true rfl⟩ [0] [1, 2, 3, 4, 5] [5, 0, 1, 2, 3, 4] rfl rfl (wr := [1, 2, 3, 4, 5].filterMap (fun i => (wd_X6_fits E a_t a_t_page a_t_count a_t_open a_t_weight a_t_sight x_t_signs w_t_pad x_t_places x_t_begins x_t_court x_t_allowed x_t_sights m_t_opens w_t_behind w_t_outs w_t_pack w_t_image w_t_isKept x_t_page m_t_count m_t_open x_t_weight x_t_sight)[i]?)) rfl rfl rfl 6 0 rfl rfl rfl rfl rfl (Nat.le_of_ble_eq_true rfl) rfl (ws' := (wd_X6_fits E a_t a_t_page a_t_count a_t_open a_t_weight a_t_sight x_t_signs w_t_pad x_t_places x_t_begins x_t_court x_t_allowed x_t_sights m_t_opens w_t_behind w_t_outs w_t_pack w_t_image w_t_isKept x_t_page m_t_count m_t_open x_t_weight x_t_sight)) rfl ⟨Nat.le_of_ble_eq_true rfl, Nat.le_of_ble_eq_true rfl⟩ dX6_fits_26 (fun H locs hP hD hS => ?_)
      refine lv_icmp_ge (tgt := 61) hx hb dX6_fits_29 (by decide) (fun c_29 => ?_) (fun c_29 => ?_)
      · have hf := if_t c_29 hf
        refine lv_iload_n hx hb dX6_fits_61 rfl (lv_at hl 1 rfl) ?_
        exact fin' _ _ _ _ hf 62 ls H locs dX6_fits_62 rfl hP hD hS
      · have hf := if_f c_29 hf
        refine lv_iload_n hx hb dX6_fits_32 rfl (lv_at hl 1 rfl) ?_
        refine lv_aload_n hx hb dX6_fits_33 rfl (lv_at hl 0 rfl) ?_
        refine lv_iload_n hx hb dX6_fits_34 rfl (lv_at hl 2 rfl) ?_
        obtain ⟨r35, hc35, hf⟩ := bd_some hf
        refine cV_I X hA hP hD hS hl.1 (c_X6_writeIn l E a_t a_t_count a_t_open a_t_weight x_t_signs w_t_pad x_t_places (.ref a_t_page) x_t_begins x_t_court x_t_allowed x_t_sights (.ref a_t_sight) m_t_opens w_t_behind w_t_outs w_t_pack w_t_image w_t_isKept m_t_count m_t_open x_t_weight v2 r35 hc35) 1 k_840 mw_X6_writeIn hd_X6_writeIn ⟨Nat.le_of_ble_eq_true rfl, Nat.le_of_ble_eq_true rfl⟩ [0, 2, 3, 4] [1, 5] [2, 0, 3, 4, 5, 1] rfl rfl (wr := [1, 5].filterMap (fun i => (wd_X6_fits E a_t a_t_page a_t_count a_t_open a_t_weight a_t_sight x_t_signs w_t_pad x_t_places x_t_begins x_t_court x_t_allowed x_t_sights m_t_opens w_t_behind w_t_outs w_t_pack w_t_image w_t_isKept x_t_page m_t_count m_t_open x_t_weight x_t_sight)[i]?)) rfl rfl rfl 6 0 rfl rfl rfl rfl rfl (Nat.le_of_ble_eq_true rfl) rfl (ws' := (wd_X6_fits E a_t a_t_page a_t_count a_t_open a_t_weight a_t_sight x_t_signs w_t_pad x_t_places x_t_begins x_t_court x_t_allowed x_t_sights m_t_opens w_t_behind w_t_outs w_t_pack w_t_image w_t_isKept x_t_page r35.2 m_t_open x_t_weight x_t_sight)) rfl ⟨Nat.le_of_ble_eq_true rfl, Nat.le_of_ble_eq_true rfl⟩ dX6_fits_35 (fun H locs hP hD hS => ?_)
        refine lv_if_le (tgt := 52) hx hb dX6_fits_38 (by decide) (fun c_38 => ?_) (fun c_38 => ?_)
        · have hf := if_t c_38 hf
          refine lv_iconst (v := (0 : Int32)) hx hb dX6_fits_52 (by decide) ?_
          refine lv_iadd hx hb dX6_fits_53 ?_
          refine lv_istore_n (lv' := [(1, .int (v1 + (0 : Int32))), (0, .ref a_t), (2, .int v2)]) hx hb dX6_fits_54 rfl hl (by decide) rfl (fun ls hl => ?_)
          refine lv_iinc (v := (v2 + (1 : Int32))) (lv' := [(2, .int (v2 + (1 : Int32))), (1, .int (v1 + (0 : Int32))), (0, .ref a_t)]) hx hb dX6_fits_55 hl (k := 2) rfl rfl (by decide) rfl (fun ls hl => ?_)
          refine lv_goto (tgt := 24) hx hb dX6_fits_58 (by decide) ?_
          exact ih24 (v1 + (0 : Int32)) (v2 + (1 : Int32)) m_t_opens r35.2 m_t_open hf H locs ls hP hD hS (lv_sub hl [2, 1, 0] rfl)
        · have hf := if_f c_38 hf
          refine lv_aload_n hx hb dX6_fits_41 rfl (lv_at hl 0 rfl) ?_
          obtain ⟨r42, hc42, hf⟩ := bd_some hf
          refine cV_I X hA hP hD hS hl.1 (c_X6_areSeen l E a_t a_t_sight a_t_count x_t_signs w_t_pad x_t_places (.ref a_t_page) x_t_begins x_t_court x_t_allowed (.ref a_t_weight) x_t_sights m_t_opens (.ref a_t_open) w_t_behind w_t_outs w_t_pack w_t_image w_t_isKept x_t_sight r35.2 r42 hc42) 0 k_895 mw_X6_areSeen hd_X6_areSeen ⟨Nat.le_of_ble_eq_true rfl, Nat.le_of_ble_eq_true rfl⟩ [0, 5, 2] [1, 3, 4] [3, 0, 5, 1, 2, 4] rfl rfl (wr := [1, 3, 4].filterMap (fun i => (wd_X6_fits E a_t a_t_page a_t_count a_t_open a_t_weight a_t_sight x_t_signs w_t_pad x_t_places x_t_begins x_t_court x_t_allowed x_t_sights m_t_opens w_t_behind w_t_outs w_t_pack w_t_image w_t_isKept x_t_page r35.2 m_t_open x_t_weight x_t_sight)[i]?)) rfl rfl rfl 6 0 rfl rfl rfl rfl rfl (Nat.le_of_ble_eq_true rfl) rfl (ws' := (wd_X6_fits E a_t a_t_page a_t_count a_t_open a_t_weight a_t_sight x_t_signs w_t_pad x_t_places x_t_begins x_t_court x_t_allowed x_t_sights m_t_opens w_t_behind w_t_outs w_t_pack w_t_image w_t_isKept x_t_page r35.2 m_t_open x_t_weight x_t_sight)) rfl ⟨Nat.le_of_ble_eq_true rfl, Nat.le_of_ble_eq_true rfl⟩ dX6_fits_42 (fun H locs hP hD hS => ?_)
          refine lv_if_eq (tgt := 52) hx hb dX6_fits_45 (by decide) (fun c_45 => ?_) (fun c_45 => ?_)
          · have hf := if_t c_45 hf
            refine lv_iconst (v := (0 : Int32)) hx hb dX6_fits_52 (by decide) ?_
            refine lv_iadd hx hb dX6_fits_53 ?_
            refine lv_istore_n (lv' := [(1, .int (v1 + (0 : Int32))), (0, .ref a_t), (2, .int v2)]) hx hb dX6_fits_54 rfl hl (by decide) rfl (fun ls hl => ?_)
            refine lv_iinc (v := (v2 + (1 : Int32))) (lv' := [(2, .int (v2 + (1 : Int32))), (1, .int (v1 + (0 : Int32))), (0, .ref a_t)]) hx hb dX6_fits_55 hl (k := 2) rfl rfl (by decide) rfl (fun ls hl => ?_)
            refine lv_goto (tgt := 24) hx hb dX6_fits_58 (by decide) ?_
            exact ih24 (v1 + (0 : Int32)) (v2 + (1 : Int32)) m_t_opens r35.2 m_t_open hf H locs ls hP hD hS (lv_sub hl [2, 1, 0] rfl)
          · have hf := if_f c_45 hf
            refine lv_iconst (v := (1 : Int32)) hx hb dX6_fits_48 (by decide) ?_
            refine lv_goto (tgt := 53) hx hb dX6_fits_49 (by decide) ?_
            refine lv_iadd hx hb dX6_fits_53 ?_
            refine lv_istore_n (lv' := [(1, .int (v1 + (1 : Int32))), (0, .ref a_t), (2, .int v2)]) hx hb dX6_fits_54 rfl hl (by decide) rfl (fun ls hl => ?_)
            refine lv_iinc (v := (v2 + (1 : Int32))) (lv' := [(2, .int (v2 + (1 : Int32))), (1, .int (v1 + (1 : Int32))), (0, .ref a_t)]) hx hb dX6_fits_55 hl (k := 2) rfl rfl (by decide) rfl (fun ls hl => ?_)
            refine lv_goto (tgt := 24) hx hb dX6_fits_58 (by decide) ?_
            exact ih24 (v1 + (1 : Int32)) (v2 + (1 : Int32)) m_t_opens r35.2 m_t_open hf H locs ls hP hD hS (lv_sub hl [2, 1, 0] rfl)
  have hS : va_S A s.heap s.heap [] := va_S.rf
  obtain ⟨H, hH9⟩ : ∃ z, z = s.heap := ⟨_, rfl⟩
  obtain ⟨locs, hL9⟩ : ∃ z : List Loc, z = [] := ⟨_, rfl⟩
  rw [← hL9]
  rw [← hL9] at hS
  have hP : va_P E.1 vwCl (wd_X6_fits E a_t a_t_page a_t_count a_t_open a_t_weight a_t_sight x_t_signs w_t_pad x_t_places x_t_begins x_t_court x_t_allowed x_t_sights x_t_opens w_t_behind w_t_outs w_t_pack w_t_image w_t_isKept x_t_page x_t_count x_t_open x_t_weight x_t_sight) H := by rw [hH9]; exact hP
  have hS : va_S A s.heap H locs := by rw [hH9]; exact hS
  suffices hgoal : W p l e (rmm 3 65) s m ([.ref a_t] : List Value).toArray below meth c H locs 0 0 Q (F0 m 0 ls []) by rw [hH9] at hgoal; exact hgoal
  rw [f_X6_fits] at hf
  refine lv_aload_n hx hb dX6_fits_0 rfl (lv_at hl 0 rfl) ?_
  refine lv_bipush (v := (42 : Int32)) hx hb dX6_fits_1 (by decide) ?_
  obtain ⟨r3, hc3, hf⟩ := bd_some hf
  refine cV_I X hA hP hD hS hl.1 (c_X6_many l E a_t a_t_page x_t_signs w_t_pad x_t_places x_t_begins x_t_court x_t_allowed (.ref a_t_weight) x_t_sights (.ref a_t_sight) (.ref a_t_count) x_t_opens (.ref a_t_open) w_t_behind w_t_outs w_t_pack w_t_image w_t_isKept x_t_page (42 : Int32) r3 hc3) 1 k_753 mw_X6_many hd_X6_many ⟨Nat.le_of_ble_eq_true rfl, Nat.le_of_ble_eq_true rfl⟩ [0, 1] [2, 3, 4, 5] [4, 5, 0, 1, 2, 3] rfl rfl (wr := [2, 3, 4, 5].filterMap (fun i => (wd_X6_fits E a_t a_t_page a_t_count a_t_open a_t_weight a_t_sight x_t_signs w_t_pad x_t_places x_t_begins x_t_court x_t_allowed x_t_sights x_t_opens w_t_behind w_t_outs w_t_pack w_t_image w_t_isKept x_t_page x_t_count x_t_open x_t_weight x_t_sight)[i]?)) rfl rfl rfl 6 0 rfl rfl rfl rfl rfl (Nat.le_of_ble_eq_true rfl) rfl (ws' := (wd_X6_fits E a_t a_t_page a_t_count a_t_open a_t_weight a_t_sight x_t_signs w_t_pad x_t_places x_t_begins x_t_court x_t_allowed x_t_sights x_t_opens w_t_behind w_t_outs w_t_pack w_t_image w_t_isKept x_t_page x_t_count x_t_open x_t_weight x_t_sight)) rfl ⟨Nat.le_of_ble_eq_true rfl, Nat.le_of_ble_eq_true rfl⟩ dX6_fits_3 (fun H locs hP hD hS => ?_)
  refine lv_if_le (tgt := 12) hx hb dX6_fits_6 (by decide) (fun c_6 => ?_) (fun c_6 => ?_)
  · have hf := if_t c_6 hf
    refine lv_aload_n hx hb dX6_fits_12 rfl (lv_at hl 0 rfl) ?_
    refine lv_aload_n hx hb dX6_fits_13 rfl (lv_at hl 0 rfl) ?_
    refine gf_X6_23 X hP 0 rfl rfl dX6_fits_14 ?_
    obtain ⟨r17, hc17, hf⟩ := bd_some hf
    refine cV_V X hA hP hD hS hl.1 (c_X6_lay l E a_t a_t_count a_t_page a_t_open x_t_signs w_t_pad x_t_places x_t_begins x_t_court x_t_allowed (.ref a_t_weight) x_t_sights (.ref a_t_sight) x_t_opens w_t_behind w_t_outs w_t_pack w_t_image w_t_isKept x_t_count x_t_page x_t_open x_t_court r17 hc17) 1 k_757 mw_X6_lay hd_X6_lay ⟨Nat.le_of_ble_eq_true rfl, Nat.le_of_ble_eq_true rfl⟩ [0, 2, 1, 3] [4, 5] [2, 4, 3, 5, 0, 1] rfl rfl (wr := [4, 5].filterMap (fun i => (wd_X6_fits E a_t a_t_page a_t_count a_t_open a_t_weight a_t_sight x_t_signs w_t_pad x_t_places x_t_begins x_t_court x_t_allowed x_t_sights x_t_opens w_t_behind w_t_outs w_t_pack w_t_image w_t_isKept x_t_page x_t_count x_t_open x_t_weight x_t_sight)[i]?)) rfl rfl rfl 6 0 rfl rfl rfl rfl rfl (Nat.le_of_ble_eq_true rfl) rfl (ws' := (wd_X6_fits E a_t a_t_page a_t_count a_t_open a_t_weight a_t_sight x_t_signs w_t_pad x_t_places x_t_begins x_t_court x_t_allowed x_t_sights r17.1 w_t_behind w_t_outs w_t_pack w_t_image w_t_isKept x_t_page r17.2.1 r17.2.2 x_t_weight x_t_sight)) rfl ⟨Nat.le_of_ble_eq_true rfl, Nat.le_of_ble_eq_true rfl⟩ dX6_fits_17 (fun H locs hP hD hS => ?_)
    refine lv_iconst (v := (0 : Int32)) hx hb dX6_fits_20 (by decide) ?_
    refine lv_istore_n (lv' := [(1, .int (0 : Int32)), (0, .ref a_t)]) hx hb dX6_fits_21 rfl hl (by decide) rfl (fun ls hl => ?_)
    refine lv_iconst (v := (0 : Int32)) hx hb dX6_fits_22 (by decide) ?_
    refine lv_istore_n (lv' := [(2, .int (0 : Int32)), (1, .int (0 : Int32)), (0, .ref a_t)]) hx hb dX6_fits_23 rfl hl (by decide) rfl (fun ls hl => ?_)
    exact L24 FU (0 : Int32) (0 : Int32) r17.1 r17.2.1 r17.2.2 hf H locs ls hP hD hS (lv_sub hl [2, 1, 0] rfl)
  · have hf := if_f c_6 hf
    refine lv_bipush (v := (-3 : Int32)) hx hb dX6_fits_9 (by decide) ?_
    exact fin' _ _ _ _ hf 11 ls H locs dX6_fits_11 rfl hP hD hS
abbrev wd_X6_drawn (E : EN) (a_t : Nat) (a_t_page : Nat) (a_t_count : Nat) (a_t_open : Nat) (a_t_weight : Nat) (a_t_sight : Nat) (x_t_signs : Int32) (w_t_pad : Value) (x_t_places : Int32) (x_t_begins : Int32) (x_t_court : Int32) (x_t_allowed : Int32) (x_t_sights : Int32) (x_t_opens : Int32) (w_t_behind : Value) (w_t_outs : Value) (w_t_pack : Value) (w_t_image : Value) (w_t_isKept : Value) (x_t_page : Nat → Int32) (x_t_count : Nat → Int32) (x_t_open : Nat → Int32) (x_t_weight : Nat → Int32) (x_t_sight : Nat → Int32) : va_W := [(a_t, e_O 6 [.int x_t_signs, w_t_pad, .int x_t_places, .ref a_t_page, .int x_t_begins, .int x_t_court, .int x_t_allowed, .ref a_t_weight, .int x_t_sights, .ref a_t_sight, .ref a_t_count, .int x_t_opens, .ref a_t_open, w_t_behind, w_t_outs, w_t_pack, w_t_image, w_t_isKept]), (a_t_page, e_I E 40 x_t_page), (a_t_count, e_I E 40 x_t_count), (a_t_open, e_I E 5 x_t_open), (a_t_weight, e_I E 11 x_t_weight), (a_t_sight, e_I E 12 x_t_sight)]
def f_X6_drawn_73 (p1 : Int32) (p2 : Int32) (p3 : Int32) (x_t_places : Int32) (x_t_sights : Int32) (x_t_weight : Nat → Int32) (x_t_sight : Nat → Int32)  : Nat → Int64 → Int64 → Int32 → Int32 → (Nat → Int32) → (Nat → Int32) → Option (Int64 × Int32 × (Nat → Int32) × (Nat → Int32))
  | 0, _, _, _, _, _, _ => none
  | n_ + 1, v4, v6, v8, m_t_opens, m_t_count, m_t_open =>
    Option.bind (f_X6_codes m_t_opens) (fun r76 =>
    if r76 ≤ v8 then
      if (lg_cmp v6 (0 : Int64)) = 0 then
        some ((-1000000000000000003 : Int64), m_t_opens, m_t_count, m_t_open)
      else
        Option.bind (f_X6_term v4 v6 p3) (fun r161 =>
        some (r161, m_t_opens, m_t_count, m_t_open))
    else
      Option.bind (f_X6_writeIn v8 m_t_opens m_t_count m_t_open x_t_weight) (fun r85 =>
      if r85.1 ≤ 0 then
        f_X6_drawn_73 p1 p2 p3 x_t_places x_t_sights x_t_weight x_t_sight n_ v4 v6 (v8 + (1 : Int32)) m_t_opens r85.2 m_t_open
      else
        Option.bind (f_X6_areSeen x_t_places x_t_sights x_t_sight r85.2) (fun r96 =>
        if r96 = 0 then
          f_X6_drawn_73 p1 p2 p3 x_t_places x_t_sights x_t_weight x_t_sight n_ v4 v6 (v8 + (1 : Int32)) m_t_opens r85.2 m_t_open
        else
          ck (inB p1 5) (
          ck (inB (m_t_open (ix p1)) 40) (
          if (r85.2 (ix (m_t_open (ix p1)))) = p2 then
            f_X6_drawn_73 p1 p2 p3 x_t_places x_t_sights x_t_weight x_t_sight n_ (v4 + r85.1.toInt64) (v6 + r85.1.toInt64) (v8 + (1 : Int32)) m_t_opens r85.2 m_t_open
          else
            f_X6_drawn_73 p1 p2 p3 x_t_places x_t_sights x_t_weight x_t_sight n_ (v4 + (0 : Int64)) (v6 + r85.1.toInt64) (v8 + (1 : Int32)) m_t_opens r85.2 m_t_open)))))
def f_X6_drawn (p1 : Int32) (p2 : Int32) (p3 : Int32) (x_t_places : Int32) (x_t_court : Int32) (x_t_sights : Int32) (x_t_opens : Int32) (x_t_page : Nat → Int32) (x_t_count : Nat → Int32) (x_t_open : Nat → Int32) (x_t_weight : Nat → Int32) (x_t_sight : Nat → Int32) : Option (Int64 × Int32 × (Nat → Int32) × (Nat → Int32)) :=
  Option.bind (f_X6_many (63 : Int32) x_t_places x_t_page) (fun r5 =>
  Option.bind (f_X6_in p1 (0 : Int32) (r5 - (1 : Int32))) (fun r10 =>
  if r10 = 0 then
    some ((-1000000000000000001 : Int64), x_t_opens, x_t_count, x_t_open)
  else
    Option.bind (f_X6_in p2 (1 : Int32) (10 : Int32)) (fun r20 =>
    if r20 = 0 then
      some ((-1000000000000000001 : Int64), x_t_opens, x_t_count, x_t_open)
    else
      Option.bind (f_X6_in p3 (0 : Int32) (1 : Int32)) (fun r33 =>
      if r33 = 0 then
        some ((-1000000000000000002 : Int64), x_t_opens, x_t_count, x_t_open)
      else
        Option.bind (f_X6_many (42 : Int32) x_t_places x_t_page) (fun r46 =>
        if r46 ≤ 0 then
          Option.bind (f_X6_lay x_t_court x_t_places x_t_count x_t_page x_t_open) (fun r61 =>
          f_X6_drawn_73 p1 p2 p3 x_t_places x_t_sights x_t_weight x_t_sight FU (0 : Int64) (0 : Int64) (0 : Int32) r61.1 r61.2.1 r61.2.2)
        else
          some ((-1000000000000000003 : Int64), x_t_opens, x_t_count, x_t_open))))))
set_option maxHeartbeats 4000000 in
set_option maxRecDepth 100000 in
theorem c_X6_drawn (l : Launch) (E : EN) (a_t a_t_page a_t_count a_t_open a_t_weight a_t_sight : Nat) (x_t_signs : Int32) (w_t_pad : Value) (x_t_places : Int32) (x_t_begins : Int32) (x_t_court : Int32) (x_t_allowed : Int32) (x_t_sights : Int32) (x_t_opens : Int32) (w_t_behind : Value) (w_t_outs : Value) (w_t_pack : Value) (w_t_image : Value) (w_t_isKept : Value) (x_t_page : Nat → Int32) (x_t_count : Nat → Int32) (x_t_open : Nat → Int32) (x_t_weight : Nat → Int32) (x_t_sight : Nat → Int32) (p1 : Int32) (p2 : Int32) (p3 : Int32) (res : Int64 × Int32 × (Nat → Int32) × (Nat → Int32)) (hf : f_X6_drawn p1 p2 p3 x_t_places x_t_court x_t_sights x_t_opens x_t_page x_t_count x_t_open x_t_weight x_t_sight = some res) : CtL l yX6_drawn cX6_drawn 10 3 65 E [.ref a_t, .int p1, .int p2, .int p3] (wd_X6_drawn E a_t a_t_page a_t_count a_t_open a_t_weight a_t_sight x_t_signs w_t_pad x_t_places x_t_begins x_t_court x_t_allowed x_t_sights x_t_opens w_t_behind w_t_outs w_t_pack w_t_image w_t_isKept x_t_page x_t_count x_t_open x_t_weight x_t_sight) (wd_X6_drawn E a_t a_t_page a_t_count a_t_open a_t_weight a_t_sight x_t_signs w_t_pad x_t_places x_t_begins x_t_court x_t_allowed x_t_sights res.2.1 w_t_behind w_t_outs w_t_pack w_t_image w_t_isKept x_t_page res.2.2.1 res.2.2.2 x_t_weight x_t_sight) res.1 := by
  refine CtL.of RX6 (by decide) rfl (Nat.le_of_ble_eq_true rfl) ?_
  intro p e s m below meth c A Q ls X hA hP hD hl fin
  have hx := X.1
  have hb := X.2.1
  have hl : lv_has ls 10 [(0, .ref a_t), (1, .int p1), (2, .int p2), (3, .int p3)] := hl
  have fin' : ∀ (fr0 : Int64) (fr1 : Int32) (fr2 : (Nat → Int32)) (fr3 : (Nat → Int32)), some (fr0, fr1, fr2, fr3) = some res → ∀ (pc : Nat) (ls : Array Slot) (H : Heap) (locs : List Loc), decode cX6_drawn pc = .ok (.lreturn, 1) → va_P E.1 vwCl (wd_X6_drawn E a_t a_t_page a_t_count a_t_open a_t_weight a_t_sight x_t_signs w_t_pad x_t_places x_t_begins x_t_court x_t_allowed x_t_sights fr1 w_t_behind w_t_outs w_t_pack w_t_image w_t_isKept x_t_page fr2 fr3 x_t_weight x_t_sight) H → va_D A (wd_X6_drawn E a_t a_t_page a_t_count a_t_open a_t_weight a_t_sight x_t_signs w_t_pad x_t_places x_t_begins x_t_court x_t_allowed x_t_sights fr1 w_t_behind w_t_outs w_t_pack w_t_image w_t_isKept x_t_page fr2 fr3 x_t_weight x_t_sight) → va_S A s.heap H locs → W p l e (rmm 3 65) s m ([.ref a_t, .int p1, .int p2, .int p3] : List Value).toArray below meth c H locs 0 0 Q (F0 m pc ls [.long fr0]) := by
    intro fr0 fr1 fr2 fr3 he
    cases he
    exact fin
  have L73 : ∀ (n73 : Nat) (v4 : Int64) (v6 : Int64) (v8 : Int32) (m_t_opens : Int32) (m_t_count : Nat → Int32) (m_t_open : Nat → Int32), f_X6_drawn_73 p1 p2 p3 x_t_places x_t_sights x_t_weight x_t_sight n73 v4 v6 v8 m_t_opens m_t_count m_t_open = some res → ∀ (H : Heap) (locs : List Loc) (ls : Array Slot), va_P E.1 vwCl (wd_X6_drawn E a_t a_t_page a_t_count a_t_open a_t_weight a_t_sight x_t_signs w_t_pad x_t_places x_t_begins x_t_court x_t_allowed x_t_sights m_t_opens w_t_behind w_t_outs w_t_pack w_t_image w_t_isKept x_t_page m_t_count m_t_open x_t_weight x_t_sight) H → va_D A (wd_X6_drawn E a_t a_t_page a_t_count a_t_open a_t_weight a_t_sight x_t_signs w_t_pad x_t_places x_t_begins x_t_court x_t_allowed x_t_sights m_t_opens w_t_behind w_t_outs w_t_pack w_t_image w_t_isKept x_t_page m_t_count m_t_open x_t_weight x_t_sight) → va_S A s.heap H locs → lv_has ls 10 [(0, .ref a_t), (1, .int p1), (2, .int p2), (3, .int p3), (4, .long v4), (6, .long v6), (8, .int v8)] → W p l e (rmm 3 65) s m ([.ref a_t, .int p1, .int p2, .int p3] : List Value).toArray below meth c H locs 0 0 Q (F0 m 73 ls []) := by
    intro n73
    induction n73 with
    | zero => intro v4 v6 v8 m_t_opens m_t_count m_t_open hf; rw [f_X6_drawn_73] at hf; cases hf
    | succ n73 ih73 =>
      intro v4 v6 v8 m_t_opens m_t_count m_t_open hf H locs ls hP hD hS hl
      rw [f_X6_drawn_73] at hf
      refine lv_iload hx hb dX6_drawn_73 (lv_at hl 6 rfl) ?_
      refine lv_aload_n hx hb dX6_drawn_75 rfl (lv_at hl 0 rfl) ?_
      obtain ⟨r76, hc76, hf⟩ := bd_some hf
      refine cV_I X hA hP hD hS hl.1 (c_X6_codes l E a_t x_t_signs w_t_pad x_t_places (.ref a_t_page) x_t_begins x_t_court x_t_allowed (.ref a_t_weight) x_t_sights (.ref a_t_sight) (.ref a_t_count) m_t_opens (.ref a_t_open) w_t_behind w_t_outs w_t_pack w_t_image w_t_isKept r76 hc76) 0 k_836 mw_X6_codes hd_X6_codes ⟨Nat.le_of_ble_eq_true rfl, Nat.le_of_ble_eq_true rfl⟩ [0] [1, 2, 3, 4, 5] [5, 0, 1, 2, 3, 4] rfl rfl (wr := [1, 2, 3, 4, 5].filterMap (fun i => (wd_X6_drawn E a_t a_t_page a_t_count a_t_open a_t_weight a_t_sight x_t_signs w_t_pad x_t_places x_t_begins x_t_court x_t_allowed x_t_sights m_t_opens w_t_behind w_t_outs w_t_pack w_t_image w_t_isKept x_t_page m_t_count m_t_open x_t_weight x_t_sight)[i]?)) rfl rfl rfl 6 0 rfl rfl rfl rfl rfl (Nat.le_of_ble_eq_true rfl) rfl (ws' := (wd_X6_drawn E a_t a_t_page a_t_count a_t_open a_t_weight a_t_sight x_t_signs w_t_pad x_t_places x_t_begins x_t_court x_t_allowed x_t_sights m_t_opens w_t_behind w_t_outs w_t_pack w_t_image w_t_isKept x_t_page m_t_count m_t_open x_t_weight x_t_sight)) rfl ⟨Nat.le_of_ble_eq_true rfl, Nat.le_of_ble_eq_true rfl⟩ dX6_drawn_76 (fun H locs hP hD hS => ?_)
      refine lv_icmp_ge (tgt := 143) hx hb dX6_drawn_79 (by decide) (fun c_79 => ?_) (fun c_79 => ?_)
      · have hf := if_t c_79 hf
        refine lv_lload hx hb dX6_drawn_143 (lv_at hl 5 rfl) ?_
        refine lv_lconst (v := (0 : Int64)) hx hb dX6_drawn_145 (by decide) ?_
        refine W.lcmp hx hb dX6_drawn_146 ?_
        refine lv_if_ne (tgt := 156) hx hb dX6_drawn_147 (by decide) (fun c_147 => ?_) (fun c_147 => ?_)
        · have hf := if_f c_147 hf
          refine lv_lload hx hb dX6_drawn_156 (lv_at hl 4 rfl) ?_
          refine lv_lload hx hb dX6_drawn_158 (lv_at hl 5 rfl) ?_
          refine lv_iload_n hx hb dX6_drawn_160 rfl (lv_at hl 3 rfl) ?_
          obtain ⟨r161, hc161, hf⟩ := bd_some hf
          refine cS_L X hA hP hD hS hl.1 (c_X6_term l E v4 v6 p3 r161 hc161) 3 k_848 mw_X6_term hd_X6_term ⟨Nat.le_of_ble_eq_true rfl, Nat.le_of_ble_eq_true rfl⟩ [] [0, 1, 2, 3, 4, 5] [0, 1, 2, 3, 4, 5] rfl rfl (wr := [0, 1, 2, 3, 4, 5].filterMap (fun i => (wd_X6_drawn E a_t a_t_page a_t_count a_t_open a_t_weight a_t_sight x_t_signs w_t_pad x_t_places x_t_begins x_t_court x_t_allowed x_t_sights m_t_opens w_t_behind w_t_outs w_t_pack w_t_image w_t_isKept x_t_page m_t_count m_t_open x_t_weight x_t_sight)[i]?)) rfl rfl rfl rfl rfl (Nat.le_of_ble_eq_true rfl) rfl (ws' := (wd_X6_drawn E a_t a_t_page a_t_count a_t_open a_t_weight a_t_sight x_t_signs w_t_pad x_t_places x_t_begins x_t_court x_t_allowed x_t_sights m_t_opens w_t_behind w_t_outs w_t_pack w_t_image w_t_isKept x_t_page m_t_count m_t_open x_t_weight x_t_sight)) rfl ⟨Nat.le_of_ble_eq_true rfl, Nat.le_of_ble_eq_true rfl⟩ dX6_drawn_161 (fun H locs hP hD hS => ?_)
          exact fin' _ _ _ _ hf 164 ls H locs dX6_drawn_164 hP hD hS
        · have hf := if_t c_147 hf
          refine lv_ldc2 (v := (-1000000000000000003 : Int64)) hx hb X.2.2.2.1 (X.2.2.2.2.1 _ k_835) dX6_drawn_150 ?_
          refine lv_goto (tgt := 164) hx hb dX6_drawn_153 (by decide) ?_
          exact fin' _ _ _ _ hf 164 ls H locs dX6_drawn_164 hP hD hS
      · have hf := if_f c_79 hf
        refine lv_aload_n hx hb dX6_drawn_82 rfl (lv_at hl 0 rfl) ?_
        refine lv_iload hx hb dX6_drawn_83 (lv_at hl 6 rfl) ?_
        obtain ⟨r85, hc85, hf⟩ := bd_some hf
        refine cV_I X hA hP hD hS hl.1 (c_X6_writeIn l E a_t a_t_count a_t_open a_t_weight x_t_signs w_t_pad x_t_places (.ref a_t_page) x_t_begins x_t_court x_t_allowed x_t_sights (.ref a_t_sight) m_t_opens w_t_behind w_t_outs w_t_pack w_t_image w_t_isKept m_t_count m_t_open x_t_weight v8 r85 hc85) 1 k_840 mw_X6_writeIn hd_X6_writeIn ⟨Nat.le_of_ble_eq_true rfl, Nat.le_of_ble_eq_true rfl⟩ [0, 2, 3, 4] [1, 5] [2, 0, 3, 4, 5, 1] rfl rfl (wr := [1, 5].filterMap (fun i => (wd_X6_drawn E a_t a_t_page a_t_count a_t_open a_t_weight a_t_sight x_t_signs w_t_pad x_t_places x_t_begins x_t_court x_t_allowed x_t_sights m_t_opens w_t_behind w_t_outs w_t_pack w_t_image w_t_isKept x_t_page m_t_count m_t_open x_t_weight x_t_sight)[i]?)) rfl rfl rfl 6 0 rfl rfl rfl rfl rfl (Nat.le_of_ble_eq_true rfl) rfl (ws' := (wd_X6_drawn E a_t a_t_page a_t_count a_t_open a_t_weight a_t_sight x_t_signs w_t_pad x_t_places x_t_begins x_t_court x_t_allowed x_t_sights m_t_opens w_t_behind w_t_outs w_t_pack w_t_image w_t_isKept x_t_page r85.2 m_t_open x_t_weight x_t_sight)) rfl ⟨Nat.le_of_ble_eq_true rfl, Nat.le_of_ble_eq_true rfl⟩ dX6_drawn_85 (fun H locs hP hD hS => ?_)
        refine lv_istore (lv' := [(9, .int r85.1), (0, .ref a_t), (1, .int p1), (2, .int p2), (3, .int p3), (4, .long v4), (6, .long v6), (8, .int v8)]) hx hb dX6_drawn_88 hl (by decide) rfl (fun ls hl => ?_)
        refine lv_iload hx hb dX6_drawn_90 (lv_at hl 0 rfl) ?_
        refine lv_if_le (tgt := 137) hx hb dX6_drawn_92 (by decide) (fun c_92 => ?_) (fun c_92 => ?_)
        · have hf := if_t c_92 hf
          refine lv_iinc (v := (v8 + (1 : Int32))) (lv' := [(8, .int (v8 + (1 : Int32))), (9, .int r85.1), (0, .ref a_t), (1, .int p1), (2, .int p2), (3, .int p3), (4, .long v4), (6, .long v6)]) hx hb dX6_drawn_137 hl (k := 7) rfl rfl (by decide) rfl (fun ls hl => ?_)
          refine lv_goto (tgt := 73) hx hb dX6_drawn_140 (by decide) ?_
          exact ih73 v4 v6 (v8 + (1 : Int32)) m_t_opens r85.2 m_t_open hf H locs ls hP hD hS (lv_sub hl [2, 3, 4, 5, 6, 7, 0] rfl)
        · have hf := if_f c_92 hf
          refine lv_aload_n hx hb dX6_drawn_95 rfl (lv_at hl 1 rfl) ?_
          obtain ⟨r96, hc96, hf⟩ := bd_some hf
          refine cV_I X hA hP hD hS hl.1 (c_X6_areSeen l E a_t a_t_sight a_t_count x_t_signs w_t_pad x_t_places (.ref a_t_page) x_t_begins x_t_court x_t_allowed (.ref a_t_weight) x_t_sights m_t_opens (.ref a_t_open) w_t_behind w_t_outs w_t_pack w_t_image w_t_isKept x_t_sight r85.2 r96 hc96) 0 k_895 mw_X6_areSeen hd_X6_areSeen ⟨Nat.le_of_ble_eq_true rfl, Nat.le_of_ble_eq_true rfl⟩ [0, 5, 2] [1, 3, 4] [3, 0, 5, 1, 2, 4] rfl rfl (wr := [1, 3, 4].filterMap (fun i => (wd_X6_drawn E a_t a_t_page a_t_count a_t_open a_t_weight a_t_sight x_t_signs w_t_pad x_t_places x_t_begins x_t_court x_t_allowed x_t_sights m_t_opens w_t_behind w_t_outs w_t_pack w_t_image w_t_isKept x_t_page r85.2 m_t_open x_t_weight x_t_sight)[i]?)) rfl rfl rfl 6 0 rfl rfl rfl rfl rfl (Nat.le_of_ble_eq_true rfl) rfl (ws' := (wd_X6_drawn E a_t a_t_page a_t_count a_t_open a_t_weight a_t_sight x_t_signs w_t_pad x_t_places x_t_begins x_t_court x_t_allowed x_t_sights m_t_opens w_t_behind w_t_outs w_t_pack w_t_image w_t_isKept x_t_page r85.2 m_t_open x_t_weight x_t_sight)) rfl ⟨Nat.le_of_ble_eq_true rfl, Nat.le_of_ble_eq_true rfl⟩ dX6_drawn_96 (fun H locs hP hD hS => ?_)
          refine lv_if_eq (tgt := 137) hx hb dX6_drawn_99 (by decide) (fun c_99 => ?_) (fun c_99 => ?_)
          · have hf := if_t c_99 hf
            refine lv_iinc (v := (v8 + (1 : Int32))) (lv' := [(8, .int (v8 + (1 : Int32))), (9, .int r85.1), (0, .ref a_t), (1, .int p1), (2, .int p2), (3, .int p3), (4, .long v4), (6, .long v6)]) hx hb dX6_drawn_137 hl (k := 7) rfl rfl (by decide) rfl (fun ls hl => ?_)
            refine lv_goto (tgt := 73) hx hb dX6_drawn_140 (by decide) ?_
            exact ih73 v4 v6 (v8 + (1 : Int32)) m_t_opens r85.2 m_t_open hf H locs ls hP hD hS (lv_sub hl [2, 3, 4, 5, 6, 7, 0] rfl)
          · have hf := if_f c_99 hf
            refine lv_lload hx hb dX6_drawn_102 (lv_at hl 6 rfl) ?_
            refine lv_iload hx hb dX6_drawn_104 (lv_at hl 0 rfl) ?_
            refine lv_i2l (v := r85.1.toInt64) hx hb dX6_drawn_106 rfl ?_
            refine lv_ladd hx hb dX6_drawn_107 ?_
            refine lv_lstore (lv' := [(6, .long (v6 + r85.1.toInt64)), (9, .int r85.1), (0, .ref a_t), (1, .int p1), (2, .int p2), (3, .int p3), (4, .long v4), (8, .int v8)]) hx hb dX6_drawn_108 hl (by decide) rfl (fun ls hl => ?_)
            refine lv_lload hx hb dX6_drawn_110 (lv_at hl 6 rfl) ?_
            refine lv_aload_n hx hb dX6_drawn_112 rfl (lv_at hl 2 rfl) ?_
            refine gf_X6_35 X hP 0 rfl rfl dX6_drawn_113 ?_
            refine lv_aload_n hx hb dX6_drawn_116 rfl (lv_at hl 2 rfl) ?_
            refine gf_X6_38 X hP 0 rfl rfl dX6_drawn_117 ?_
            refine lv_iload_n hx hb dX6_drawn_120 rfl (lv_at hl 3 rfl) ?_
            obtain ⟨hi121, hf⟩ := ck_some hf
            refine r_iald X hP 3 rfl hi121 dX6_drawn_121 ?_
            obtain ⟨hi122, hf⟩ := ck_some hf
            refine r_iald X hP 2 rfl hi122 dX6_drawn_122 ?_
            refine lv_iload_n hx hb dX6_drawn_123 rfl (lv_at hl 4 rfl) ?_
            refine lv_icmp_ne (tgt := 133) hx hb dX6_drawn_124 (by decide) (fun c_124 => ?_) (fun c_124 => ?_)
            · have hf := if_f c_124 hf
              refine lv_lconst (v := (0 : Int64)) hx hb dX6_drawn_133 (by decide) ?_
              refine lv_ladd hx hb dX6_drawn_134 ?_
              refine lv_lstore (lv' := [(4, .long (v4 + (0 : Int64))), (6, .long (v6 + r85.1.toInt64)), (9, .int r85.1), (0, .ref a_t), (1, .int p1), (2, .int p2), (3, .int p3), (8, .int v8)]) hx hb dX6_drawn_135 hl (by decide) rfl (fun ls hl => ?_)
              refine lv_iinc (v := (v8 + (1 : Int32))) (lv' := [(8, .int (v8 + (1 : Int32))), (4, .long (v4 + (0 : Int64))), (6, .long (v6 + r85.1.toInt64)), (9, .int r85.1), (0, .ref a_t), (1, .int p1), (2, .int p2), (3, .int p3)]) hx hb dX6_drawn_137 hl (k := 7) rfl rfl (by decide) rfl (fun ls hl => ?_)
              refine lv_goto (tgt := 73) hx hb dX6_drawn_140 (by decide) ?_
              exact ih73 (v4 + (0 : Int64)) (v6 + r85.1.toInt64) (v8 + (1 : Int32)) m_t_opens r85.2 m_t_open hf H locs ls hP hD hS (lv_sub hl [4, 5, 6, 7, 1, 2, 0] rfl)
            · have hf := if_t c_124 hf
              refine lv_iload hx hb dX6_drawn_127 (lv_at hl 1 rfl) ?_
              refine lv_i2l (v := r85.1.toInt64) hx hb dX6_drawn_129 rfl ?_
              refine lv_goto (tgt := 134) hx hb dX6_drawn_130 (by decide) ?_
              refine lv_ladd hx hb dX6_drawn_134 ?_
              refine lv_lstore (lv' := [(4, .long (v4 + r85.1.toInt64)), (6, .long (v6 + r85.1.toInt64)), (9, .int r85.1), (0, .ref a_t), (1, .int p1), (2, .int p2), (3, .int p3), (8, .int v8)]) hx hb dX6_drawn_135 hl (by decide) rfl (fun ls hl => ?_)
              refine lv_iinc (v := (v8 + (1 : Int32))) (lv' := [(8, .int (v8 + (1 : Int32))), (4, .long (v4 + r85.1.toInt64)), (6, .long (v6 + r85.1.toInt64)), (9, .int r85.1), (0, .ref a_t), (1, .int p1), (2, .int p2), (3, .int p3)]) hx hb dX6_drawn_137 hl (k := 7) rfl rfl (by decide) rfl (fun ls hl => ?_)
              refine lv_goto (tgt := 73) hx hb dX6_drawn_140 (by decide) ?_
              exact ih73 (v4 + r85.1.toInt64) (v6 + r85.1.toInt64) (v8 + (1 : Int32)) m_t_opens r85.2 m_t_open hf H locs ls hP hD hS (lv_sub hl [4, 5, 6, 7, 1, 2, 0] rfl)
  have hS : va_S A s.heap s.heap [] := va_S.rf
  obtain ⟨H, hH9⟩ : ∃ z, z = s.heap := ⟨_, rfl⟩
  obtain ⟨locs, hL9⟩ : ∃ z : List Loc, z = [] := ⟨_, rfl⟩
  rw [← hL9]
  rw [← hL9] at hS
  have hP : va_P E.1 vwCl (wd_X6_drawn E a_t a_t_page a_t_count a_t_open a_t_weight a_t_sight x_t_signs w_t_pad x_t_places x_t_begins x_t_court x_t_allowed x_t_sights x_t_opens w_t_behind w_t_outs w_t_pack w_t_image w_t_isKept x_t_page x_t_count x_t_open x_t_weight x_t_sight) H := by rw [hH9]; exact hP
  have hS : va_S A s.heap H locs := by rw [hH9]; exact hS
  suffices hgoal : W p l e (rmm 3 65) s m ([.ref a_t, .int p1, .int p2, .int p3] : List Value).toArray below meth c H locs 0 0 Q (F0 m 0 ls []) by rw [hH9] at hgoal; exact hgoal
  rw [f_X6_drawn] at hf
  refine lv_iload_n hx hb dX6_drawn_0 rfl (lv_at hl 1 rfl) ?_
  refine lv_iconst (v := (0 : Int32)) hx hb dX6_drawn_1 (by decide) ?_
  refine lv_aload_n hx hb dX6_drawn_2 rfl (lv_at hl 0 rfl) ?_
  refine lv_bipush (v := (63 : Int32)) hx hb dX6_drawn_3 (by decide) ?_
  obtain ⟨r5, hc5, hf⟩ := bd_some hf
  refine cV_I X hA hP hD hS hl.1 (c_X6_many l E a_t a_t_page x_t_signs w_t_pad x_t_places x_t_begins x_t_court x_t_allowed (.ref a_t_weight) x_t_sights (.ref a_t_sight) (.ref a_t_count) x_t_opens (.ref a_t_open) w_t_behind w_t_outs w_t_pack w_t_image w_t_isKept x_t_page (63 : Int32) r5 hc5) 1 k_753 mw_X6_many hd_X6_many ⟨Nat.le_of_ble_eq_true rfl, Nat.le_of_ble_eq_true rfl⟩ [0, 1] [2, 3, 4, 5] [4, 5, 0, 1, 2, 3] rfl rfl (wr := [2, 3, 4, 5].filterMap (fun i => (wd_X6_drawn E a_t a_t_page a_t_count a_t_open a_t_weight a_t_sight x_t_signs w_t_pad x_t_places x_t_begins x_t_court x_t_allowed x_t_sights x_t_opens w_t_behind w_t_outs w_t_pack w_t_image w_t_isKept x_t_page x_t_count x_t_open x_t_weight x_t_sight)[i]?)) rfl rfl rfl 6 0 rfl rfl rfl rfl rfl (Nat.le_of_ble_eq_true rfl) rfl (ws' := (wd_X6_drawn E a_t a_t_page a_t_count a_t_open a_t_weight a_t_sight x_t_signs w_t_pad x_t_places x_t_begins x_t_court x_t_allowed x_t_sights x_t_opens w_t_behind w_t_outs w_t_pack w_t_image w_t_isKept x_t_page x_t_count x_t_open x_t_weight x_t_sight)) rfl ⟨Nat.le_of_ble_eq_true rfl, Nat.le_of_ble_eq_true rfl⟩ dX6_drawn_5 (fun H locs hP hD hS => ?_)
  refine lv_iconst (v := (1 : Int32)) hx hb dX6_drawn_8 (by decide) ?_
  refine lv_isub hx hb dX6_drawn_9 ?_
  obtain ⟨r10, hc10, hf⟩ := bd_some hf
  refine cS_I X hA hP hD hS hl.1 (c_X6_in l E p1 (0 : Int32) (r5 - (1 : Int32)) r10 hc10) 3 k_692 mw_X6_in hd_X6_in ⟨Nat.le_of_ble_eq_true rfl, Nat.le_of_ble_eq_true rfl⟩ [] [0, 1, 2, 3, 4, 5] [0, 1, 2, 3, 4, 5] rfl rfl (wr := [0, 1, 2, 3, 4, 5].filterMap (fun i => (wd_X6_drawn E a_t a_t_page a_t_count a_t_open a_t_weight a_t_sight x_t_signs w_t_pad x_t_places x_t_begins x_t_court x_t_allowed x_t_sights x_t_opens w_t_behind w_t_outs w_t_pack w_t_image w_t_isKept x_t_page x_t_count x_t_open x_t_weight x_t_sight)[i]?)) rfl rfl rfl rfl rfl (Nat.le_of_ble_eq_true rfl) rfl (ws' := (wd_X6_drawn E a_t a_t_page a_t_count a_t_open a_t_weight a_t_sight x_t_signs w_t_pad x_t_places x_t_begins x_t_court x_t_allowed x_t_sights x_t_opens w_t_behind w_t_outs w_t_pack w_t_image w_t_isKept x_t_page x_t_count x_t_open x_t_weight x_t_sight)) rfl ⟨Nat.le_of_ble_eq_true rfl, Nat.le_of_ble_eq_true rfl⟩ dX6_drawn_10 (fun H locs hP hD hS => ?_)
  refine lv_if_eq (tgt := 26) hx hb dX6_drawn_13 (by decide) (fun c_13 => ?_) (fun c_13 => ?_)
  · have hf := if_t c_13 hf
    refine lv_ldc2 (v := (-1000000000000000001 : Int64)) hx hb X.2.2.2.1 (X.2.2.2.2.1 _ k_833) dX6_drawn_26 ?_
    exact fin' _ _ _ _ hf 29 ls H locs dX6_drawn_29 hP hD hS
  · have hf := if_f c_13 hf
    refine lv_iload_n hx hb dX6_drawn_16 rfl (lv_at hl 2 rfl) ?_
    refine lv_iconst (v := (1 : Int32)) hx hb dX6_drawn_17 (by decide) ?_
    refine lv_bipush (v := (10 : Int32)) hx hb dX6_drawn_18 (by decide) ?_
    obtain ⟨r20, hc20, hf⟩ := bd_some hf
    refine cS_I X hA hP hD hS hl.1 (c_X6_in l E p2 (1 : Int32) (10 : Int32) r20 hc20) 3 k_692 mw_X6_in hd_X6_in ⟨Nat.le_of_ble_eq_true rfl, Nat.le_of_ble_eq_true rfl⟩ [] [0, 1, 2, 3, 4, 5] [0, 1, 2, 3, 4, 5] rfl rfl (wr := [0, 1, 2, 3, 4, 5].filterMap (fun i => (wd_X6_drawn E a_t a_t_page a_t_count a_t_open a_t_weight a_t_sight x_t_signs w_t_pad x_t_places x_t_begins x_t_court x_t_allowed x_t_sights x_t_opens w_t_behind w_t_outs w_t_pack w_t_image w_t_isKept x_t_page x_t_count x_t_open x_t_weight x_t_sight)[i]?)) rfl rfl rfl rfl rfl (Nat.le_of_ble_eq_true rfl) rfl (ws' := (wd_X6_drawn E a_t a_t_page a_t_count a_t_open a_t_weight a_t_sight x_t_signs w_t_pad x_t_places x_t_begins x_t_court x_t_allowed x_t_sights x_t_opens w_t_behind w_t_outs w_t_pack w_t_image w_t_isKept x_t_page x_t_count x_t_open x_t_weight x_t_sight)) rfl ⟨Nat.le_of_ble_eq_true rfl, Nat.le_of_ble_eq_true rfl⟩ dX6_drawn_20 (fun H locs hP hD hS => ?_)
    refine lv_if_ne (tgt := 30) hx hb dX6_drawn_23 (by decide) (fun c_23 => ?_) (fun c_23 => ?_)
    · have hf := if_f c_23 hf
      refine lv_iload_n hx hb dX6_drawn_30 rfl (lv_at hl 3 rfl) ?_
      refine lv_iconst (v := (0 : Int32)) hx hb dX6_drawn_31 (by decide) ?_
      refine lv_iconst (v := (1 : Int32)) hx hb dX6_drawn_32 (by decide) ?_
      obtain ⟨r33, hc33, hf⟩ := bd_some hf
      refine cS_I X hA hP hD hS hl.1 (c_X6_in l E p3 (0 : Int32) (1 : Int32) r33 hc33) 3 k_692 mw_X6_in hd_X6_in ⟨Nat.le_of_ble_eq_true rfl, Nat.le_of_ble_eq_true rfl⟩ [] [0, 1, 2, 3, 4, 5] [0, 1, 2, 3, 4, 5] rfl rfl (wr := [0, 1, 2, 3, 4, 5].filterMap (fun i => (wd_X6_drawn E a_t a_t_page a_t_count a_t_open a_t_weight a_t_sight x_t_signs w_t_pad x_t_places x_t_begins x_t_court x_t_allowed x_t_sights x_t_opens w_t_behind w_t_outs w_t_pack w_t_image w_t_isKept x_t_page x_t_count x_t_open x_t_weight x_t_sight)[i]?)) rfl rfl rfl rfl rfl (Nat.le_of_ble_eq_true rfl) rfl (ws' := (wd_X6_drawn E a_t a_t_page a_t_count a_t_open a_t_weight a_t_sight x_t_signs w_t_pad x_t_places x_t_begins x_t_court x_t_allowed x_t_sights x_t_opens w_t_behind w_t_outs w_t_pack w_t_image w_t_isKept x_t_page x_t_count x_t_open x_t_weight x_t_sight)) rfl ⟨Nat.le_of_ble_eq_true rfl, Nat.le_of_ble_eq_true rfl⟩ dX6_drawn_33 (fun H locs hP hD hS => ?_)
      refine lv_if_ne (tgt := 43) hx hb dX6_drawn_36 (by decide) (fun c_36 => ?_) (fun c_36 => ?_)
      · have hf := if_f c_36 hf
        refine lv_aload_n hx hb dX6_drawn_43 rfl (lv_at hl 0 rfl) ?_
        refine lv_bipush (v := (42 : Int32)) hx hb dX6_drawn_44 (by decide) ?_
        obtain ⟨r46, hc46, hf⟩ := bd_some hf
        refine cV_I X hA hP hD hS hl.1 (c_X6_many l E a_t a_t_page x_t_signs w_t_pad x_t_places x_t_begins x_t_court x_t_allowed (.ref a_t_weight) x_t_sights (.ref a_t_sight) (.ref a_t_count) x_t_opens (.ref a_t_open) w_t_behind w_t_outs w_t_pack w_t_image w_t_isKept x_t_page (42 : Int32) r46 hc46) 1 k_753 mw_X6_many hd_X6_many ⟨Nat.le_of_ble_eq_true rfl, Nat.le_of_ble_eq_true rfl⟩ [0, 1] [2, 3, 4, 5] [4, 5, 0, 1, 2, 3] rfl rfl (wr := [2, 3, 4, 5].filterMap (fun i => (wd_X6_drawn E a_t a_t_page a_t_count a_t_open a_t_weight a_t_sight x_t_signs w_t_pad x_t_places x_t_begins x_t_court x_t_allowed x_t_sights x_t_opens w_t_behind w_t_outs w_t_pack w_t_image w_t_isKept x_t_page x_t_count x_t_open x_t_weight x_t_sight)[i]?)) rfl rfl rfl 6 0 rfl rfl rfl rfl rfl (Nat.le_of_ble_eq_true rfl) rfl (ws' := (wd_X6_drawn E a_t a_t_page a_t_count a_t_open a_t_weight a_t_sight x_t_signs w_t_pad x_t_places x_t_begins x_t_court x_t_allowed x_t_sights x_t_opens w_t_behind w_t_outs w_t_pack w_t_image w_t_isKept x_t_page x_t_count x_t_open x_t_weight x_t_sight)) rfl ⟨Nat.le_of_ble_eq_true rfl, Nat.le_of_ble_eq_true rfl⟩ dX6_drawn_46 (fun H locs hP hD hS => ?_)
        refine lv_if_le (tgt := 56) hx hb dX6_drawn_49 (by decide) (fun c_49 => ?_) (fun c_49 => ?_)
        · have hf := if_t c_49 hf
          refine lv_aload_n hx hb dX6_drawn_56 rfl (lv_at hl 0 rfl) ?_
          refine lv_aload_n hx hb dX6_drawn_57 rfl (lv_at hl 0 rfl) ?_
          refine gf_X6_23 X hP 0 rfl rfl dX6_drawn_58 ?_
          obtain ⟨r61, hc61, hf⟩ := bd_some hf
          refine cV_V X hA hP hD hS hl.1 (c_X6_lay l E a_t a_t_count a_t_page a_t_open x_t_signs w_t_pad x_t_places x_t_begins x_t_court x_t_allowed (.ref a_t_weight) x_t_sights (.ref a_t_sight) x_t_opens w_t_behind w_t_outs w_t_pack w_t_image w_t_isKept x_t_count x_t_page x_t_open x_t_court r61 hc61) 1 k_757 mw_X6_lay hd_X6_lay ⟨Nat.le_of_ble_eq_true rfl, Nat.le_of_ble_eq_true rfl⟩ [0, 2, 1, 3] [4, 5] [2, 4, 3, 5, 0, 1] rfl rfl (wr := [4, 5].filterMap (fun i => (wd_X6_drawn E a_t a_t_page a_t_count a_t_open a_t_weight a_t_sight x_t_signs w_t_pad x_t_places x_t_begins x_t_court x_t_allowed x_t_sights x_t_opens w_t_behind w_t_outs w_t_pack w_t_image w_t_isKept x_t_page x_t_count x_t_open x_t_weight x_t_sight)[i]?)) rfl rfl rfl 6 0 rfl rfl rfl rfl rfl (Nat.le_of_ble_eq_true rfl) rfl (ws' := (wd_X6_drawn E a_t a_t_page a_t_count a_t_open a_t_weight a_t_sight x_t_signs w_t_pad x_t_places x_t_begins x_t_court x_t_allowed x_t_sights r61.1 w_t_behind w_t_outs w_t_pack w_t_image w_t_isKept x_t_page r61.2.1 r61.2.2 x_t_weight x_t_sight)) rfl ⟨Nat.le_of_ble_eq_true rfl, Nat.le_of_ble_eq_true rfl⟩ dX6_drawn_61 (fun H locs hP hD hS => ?_)
          refine lv_lconst (v := (0 : Int64)) hx hb dX6_drawn_64 (by decide) ?_
          refine lv_lstore (lv' := [(4, .long (0 : Int64)), (0, .ref a_t), (1, .int p1), (2, .int p2), (3, .int p3)]) hx hb dX6_drawn_65 hl (by decide) rfl (fun ls hl => ?_)
          refine lv_lconst (v := (0 : Int64)) hx hb dX6_drawn_67 (by decide) ?_
          refine lv_lstore (lv' := [(6, .long (0 : Int64)), (4, .long (0 : Int64)), (0, .ref a_t), (1, .int p1), (2, .int p2), (3, .int p3)]) hx hb dX6_drawn_68 hl (by decide) rfl (fun ls hl => ?_)
          refine lv_iconst (v := (0 : Int32)) hx hb dX6_drawn_70 (by decide) ?_
          refine lv_istore (lv' := [(8, .int (0 : Int32)), (6, .long (0 : Int64)), (4, .long (0 : Int64)), (0, .ref a_t), (1, .int p1), (2, .int p2), (3, .int p3)]) hx hb dX6_drawn_71 hl (by decide) rfl (fun ls hl => ?_)
          exact L73 FU (0 : Int64) (0 : Int64) (0 : Int32) r61.1 r61.2.1 r61.2.2 hf H locs ls hP hD hS (lv_sub hl [3, 4, 5, 6, 2, 1, 0] rfl)
        · have hf := if_f c_49 hf
          refine lv_ldc2 (v := (-1000000000000000003 : Int64)) hx hb X.2.2.2.1 (X.2.2.2.2.1 _ k_835) dX6_drawn_52 ?_
          exact fin' _ _ _ _ hf 55 ls H locs dX6_drawn_55 hP hD hS
      · have hf := if_t c_36 hf
        refine lv_ldc2 (v := (-1000000000000000002 : Int64)) hx hb X.2.2.2.1 (X.2.2.2.2.1 _ k_834) dX6_drawn_39 ?_
        exact fin' _ _ _ _ hf 42 ls H locs dX6_drawn_42 hP hD hS
    · have hf := if_t c_23 hf
      refine lv_ldc2 (v := (-1000000000000000001 : Int64)) hx hb X.2.2.2.1 (X.2.2.2.2.1 _ k_833) dX6_drawn_26 ?_
      exact fin' _ _ _ _ hf 29 ls H locs dX6_drawn_29 hP hD hS
abbrev wd_X6_takePack (E : EN) (a_t : Nat) (a_t_pack : Nat) (a_t_page : Nat) (x_t_signs : Int32) (w_t_pad : Value) (x_t_places : Int32) (x_t_begins : Int32) (x_t_court : Int32) (x_t_allowed : Int32) (w_t_weight : Value) (x_t_sights : Int32) (w_t_sight : Value) (w_t_count : Value) (x_t_opens : Int32) (w_t_open : Value) (w_t_behind : Value) (w_t_outs : Value) (w_t_image : Value) (w_t_isKept : Value) (x_t_pack : Nat → Int32) (x_t_page : Nat → Int32) : va_W := [(a_t, e_O 6 [.int x_t_signs, w_t_pad, .int x_t_places, .ref a_t_page, .int x_t_begins, .int x_t_court, .int x_t_allowed, w_t_weight, .int x_t_sights, w_t_sight, w_t_count, .int x_t_opens, w_t_open, w_t_behind, w_t_outs, .ref a_t_pack, w_t_image, w_t_isKept]), (a_t_pack, e_I E 40 x_t_pack), (a_t_page, e_I E 40 x_t_page)]
def f_X6_takePack_2 (x_t_places : Int32) (x_t_page : Nat → Int32)  : Nat → Int32 → (Nat → Int32) → Option ((Nat → Int32))
  | 0, _, _ => none
  | n_ + 1, v1, m_t_pack =>
    if x_t_places ≤ v1 then
      some m_t_pack
    else
      ck (inB v1 40) (
      f_X6_takePack_2 x_t_places x_t_page n_ (v1 + (1 : Int32)) (upd m_t_pack (ix v1) (x_t_page (ix v1))))
def f_X6_takePack (x_t_places : Int32) (x_t_pack : Nat → Int32) (x_t_page : Nat → Int32) : Option ((Nat → Int32)) :=
  f_X6_takePack_2 x_t_places x_t_page FU (0 : Int32) x_t_pack
set_option maxHeartbeats 4000000 in
set_option maxRecDepth 100000 in
theorem c_X6_takePack (l : Launch) (E : EN) (a_t a_t_pack a_t_page : Nat) (x_t_signs : Int32) (w_t_pad : Value) (x_t_places : Int32) (x_t_begins : Int32) (x_t_court : Int32) (x_t_allowed : Int32) (w_t_weight : Value) (x_t_sights : Int32) (w_t_sight : Value) (w_t_count : Value) (x_t_opens : Int32) (w_t_open : Value) (w_t_behind : Value) (w_t_outs : Value) (w_t_image : Value) (w_t_isKept : Value) (x_t_pack : Nat → Int32) (x_t_page : Nat → Int32)  (res : (Nat → Int32)) (hf : f_X6_takePack x_t_places x_t_pack x_t_page = some res) : CtV l yX6_takePack cX6_takePack 2 0 0 E [.ref a_t] (wd_X6_takePack E a_t a_t_pack a_t_page x_t_signs w_t_pad x_t_places x_t_begins x_t_court x_t_allowed w_t_weight x_t_sights w_t_sight w_t_count x_t_opens w_t_open w_t_behind w_t_outs w_t_image w_t_isKept x_t_pack x_t_page) (wd_X6_takePack E a_t a_t_pack a_t_page x_t_signs w_t_pad x_t_places x_t_begins x_t_court x_t_allowed w_t_weight x_t_sights w_t_sight w_t_count x_t_opens w_t_open w_t_behind w_t_outs w_t_image w_t_isKept res x_t_page) := by
  refine CtV.of RX6 (by decide) rfl (Nat.le_of_ble_eq_true rfl) ?_
  intro p e s m below meth c A Q ls X hA hP hD hl fin
  have hx := X.1
  have hb := X.2.1
  have hl : lv_has ls 2 [(0, .ref a_t)] := hl
  have fin' : ∀ (fr0 : (Nat → Int32)), some fr0 = some res → ∀ (pc : Nat) (ls : Array Slot) (H : Heap) (locs : List Loc), decode cX6_takePack pc = .ok (.return_, 1) → va_P E.1 vwCl (wd_X6_takePack E a_t a_t_pack a_t_page x_t_signs w_t_pad x_t_places x_t_begins x_t_court x_t_allowed w_t_weight x_t_sights w_t_sight w_t_count x_t_opens w_t_open w_t_behind w_t_outs w_t_image w_t_isKept fr0 x_t_page) H → va_D A (wd_X6_takePack E a_t a_t_pack a_t_page x_t_signs w_t_pad x_t_places x_t_begins x_t_court x_t_allowed w_t_weight x_t_sights w_t_sight w_t_count x_t_opens w_t_open w_t_behind w_t_outs w_t_image w_t_isKept fr0 x_t_page) → va_S A s.heap H locs → W p l e (rmm 0 0) s m ([.ref a_t] : List Value).toArray below meth c H locs 0 0 Q (F0 m pc ls []) := by
    intro fr0 he
    cases he
    exact fin
  have L2 : ∀ (n2 : Nat) (v1 : Int32) (m_t_pack : Nat → Int32), f_X6_takePack_2 x_t_places x_t_page n2 v1 m_t_pack = some res → ∀ (H : Heap) (locs : List Loc) (ls : Array Slot), va_P E.1 vwCl (wd_X6_takePack E a_t a_t_pack a_t_page x_t_signs w_t_pad x_t_places x_t_begins x_t_court x_t_allowed w_t_weight x_t_sights w_t_sight w_t_count x_t_opens w_t_open w_t_behind w_t_outs w_t_image w_t_isKept m_t_pack x_t_page) H → va_D A (wd_X6_takePack E a_t a_t_pack a_t_page x_t_signs w_t_pad x_t_places x_t_begins x_t_court x_t_allowed w_t_weight x_t_sights w_t_sight w_t_count x_t_opens w_t_open w_t_behind w_t_outs w_t_image w_t_isKept m_t_pack x_t_page) → va_S A s.heap H locs → lv_has ls 2 [(0, .ref a_t), (1, .int v1)] → W p l e (rmm 0 0) s m ([.ref a_t] : List Value).toArray below meth c H locs 0 0 Q (F0 m 2 ls []) := by
    intro n2
    induction n2 with
    | zero => intro v1 m_t_pack hf; rw [f_X6_takePack_2] at hf; cases hf
    | succ n2 ih2 =>
      intro v1 m_t_pack hf H locs ls hP hD hS hl
      rw [f_X6_takePack_2] at hf
      refine lv_iload_n hx hb dX6_takePack_2 rfl (lv_at hl 1 rfl) ?_
      refine lv_aload_n hx hb dX6_takePack_3 rfl (lv_at hl 0 rfl) ?_
      refine gf_X6_13 X hP 0 rfl rfl dX6_takePack_4 ?_
      refine lv_icmp_ge (tgt := 28) hx hb dX6_takePack_7 (by decide) (fun c_7 => ?_) (fun c_7 => ?_)
      · have hf := if_t c_7 hf
        exact fin' _ hf 28 ls H locs dX6_takePack_28 hP hD hS
      · have hf := if_f c_7 hf
        refine lv_aload_n hx hb dX6_takePack_10 rfl (lv_at hl 0 rfl) ?_
        refine gf_X6_47 X hP 0 rfl rfl dX6_takePack_11 ?_
        refine lv_iload_n hx hb dX6_takePack_14 rfl (lv_at hl 1 rfl) ?_
        refine lv_aload_n hx hb dX6_takePack_15 rfl (lv_at hl 0 rfl) ?_
        refine gf_X6_17 X hP 0 rfl rfl dX6_takePack_16 ?_
        refine lv_iload_n hx hb dX6_takePack_19 rfl (lv_at hl 1 rfl) ?_
        obtain ⟨hi20, hf⟩ := ck_some hf
        refine r_iald X hP 2 rfl hi20 dX6_takePack_20 ?_
        refine r_iast X hP hD hS 1 rfl hi20 (ws' := (wd_X6_takePack E a_t a_t_pack a_t_page x_t_signs w_t_pad x_t_places x_t_begins x_t_court x_t_allowed w_t_weight x_t_sights w_t_sight w_t_count x_t_opens w_t_open w_t_behind w_t_outs w_t_image w_t_isKept (upd m_t_pack (ix v1) (x_t_page (ix v1))) x_t_page)) rfl dX6_takePack_21 (fun H locs hP hD hS => ?_)
        refine lv_iinc (v := (v1 + (1 : Int32))) (lv' := [(1, .int (v1 + (1 : Int32))), (0, .ref a_t)]) hx hb dX6_takePack_22 hl (k := 1) rfl rfl (by decide) rfl (fun ls hl => ?_)
        refine lv_goto (tgt := 2) hx hb dX6_takePack_25 (by decide) ?_
        exact ih2 (v1 + (1 : Int32)) (upd m_t_pack (ix v1) (x_t_page (ix v1))) hf H locs ls hP hD hS (lv_sub hl [1, 0] rfl)
  have hS : va_S A s.heap s.heap [] := va_S.rf
  obtain ⟨H, hH9⟩ : ∃ z, z = s.heap := ⟨_, rfl⟩
  obtain ⟨locs, hL9⟩ : ∃ z : List Loc, z = [] := ⟨_, rfl⟩
  rw [← hL9]
  rw [← hL9] at hS
  have hP : va_P E.1 vwCl (wd_X6_takePack E a_t a_t_pack a_t_page x_t_signs w_t_pad x_t_places x_t_begins x_t_court x_t_allowed w_t_weight x_t_sights w_t_sight w_t_count x_t_opens w_t_open w_t_behind w_t_outs w_t_image w_t_isKept x_t_pack x_t_page) H := by rw [hH9]; exact hP
  have hS : va_S A s.heap H locs := by rw [hH9]; exact hS
  suffices hgoal : W p l e (rmm 0 0) s m ([.ref a_t] : List Value).toArray below meth c H locs 0 0 Q (F0 m 0 ls []) by rw [hH9] at hgoal; exact hgoal
  rw [f_X6_takePack] at hf
  refine lv_iconst (v := (0 : Int32)) hx hb dX6_takePack_0 (by decide) ?_
  refine lv_istore_n (lv' := [(1, .int (0 : Int32)), (0, .ref a_t)]) hx hb dX6_takePack_1 rfl hl (by decide) rfl (fun ls hl => ?_)
  exact L2 FU (0 : Int32) x_t_pack hf H locs ls hP hD hS (lv_sub hl [1, 0] rfl)
abbrev wd_X6_mix (E : EN) (a_t : Nat) (a_t_pack : Nat) (x_t_signs : Int32) (w_t_pad : Value) (x_t_places : Int32) (w_t_page : Value) (x_t_begins : Int32) (x_t_court : Int32) (x_t_allowed : Int32) (w_t_weight : Value) (x_t_sights : Int32) (w_t_sight : Value) (w_t_count : Value) (x_t_opens : Int32) (w_t_open : Value) (w_t_behind : Value) (w_t_outs : Value) (w_t_image : Value) (w_t_isKept : Value) (x_t_pack : Nat → Int32) : va_W := [(a_t, e_O 6 [.int x_t_signs, w_t_pad, .int x_t_places, w_t_page, .int x_t_begins, .int x_t_court, .int x_t_allowed, w_t_weight, .int x_t_sights, w_t_sight, w_t_count, .int x_t_opens, w_t_open, w_t_behind, w_t_outs, .ref a_t_pack, w_t_image, w_t_isKept]), (a_t_pack, e_I E 40 x_t_pack)]
def f_X6_mix_9  : Nat → Int32 → Int32 → (Nat → Int32) → Option ((Nat → Int32))
  | 0, _, _, _ => none
  | n_ + 1, v2, v3, m_t_pack =>
    if v3 ≤ 0 then
      some m_t_pack
    else
      ck (decide (¬ (v3 + (1 : Int32)) = 0)) (
      ck (inB v3 40) (
      ck (inB ((((v2 * (75 : Int32)) + (74 : Int32)) - ((v2 * (75 : Int32)) + (74 : Int32)) / (65537 : Int32) * (65537 : Int32)) - (((v2 * (75 : Int32)) + (74 : Int32)) - ((v2 * (75 : Int32)) + (74 : Int32)) / (65537 : Int32) * (65537 : Int32)) / (v3 + (1 : Int32)) * (v3 + (1 : Int32))) 40) (
      f_X6_mix_9 n_ (((v2 * (75 : Int32)) + (74 : Int32)) - ((v2 * (75 : Int32)) + (74 : Int32)) / (65537 : Int32) * (65537 : Int32)) (v3 + (-1 : Int32)) (upd (upd m_t_pack (ix v3) (m_t_pack (ix ((((v2 * (75 : Int32)) + (74 : Int32)) - ((v2 * (75 : Int32)) + (74 : Int32)) / (65537 : Int32) * (65537 : Int32)) - (((v2 * (75 : Int32)) + (74 : Int32)) - ((v2 * (75 : Int32)) + (74 : Int32)) / (65537 : Int32) * (65537 : Int32)) / (v3 + (1 : Int32)) * (v3 + (1 : Int32)))))) (ix ((((v2 * (75 : Int32)) + (74 : Int32)) - ((v2 * (75 : Int32)) + (74 : Int32)) / (65537 : Int32) * (65537 : Int32)) - (((v2 * (75 : Int32)) + (74 : Int32)) - ((v2 * (75 : Int32)) + (74 : Int32)) / (65537 : Int32) * (65537 : Int32)) / (v3 + (1 : Int32)) * (v3 + (1 : Int32)))) (m_t_pack (ix v3))))))
def f_X6_mix (p1 : Int32) (x_t_places : Int32) (x_t_pack : Nat → Int32) : Option ((Nat → Int32)) :=
  f_X6_mix_9 FU p1 (x_t_places - (1 : Int32)) x_t_pack
set_option maxHeartbeats 4000000 in
set_option maxRecDepth 100000 in
theorem c_X6_mix (l : Launch) (E : EN) (a_t a_t_pack : Nat) (x_t_signs : Int32) (w_t_pad : Value) (x_t_places : Int32) (w_t_page : Value) (x_t_begins : Int32) (x_t_court : Int32) (x_t_allowed : Int32) (w_t_weight : Value) (x_t_sights : Int32) (w_t_sight : Value) (w_t_count : Value) (x_t_opens : Int32) (w_t_open : Value) (w_t_behind : Value) (w_t_outs : Value) (w_t_image : Value) (w_t_isKept : Value) (x_t_pack : Nat → Int32) (p1 : Int32) (res : (Nat → Int32)) (hf : f_X6_mix p1 x_t_places x_t_pack = some res) : CtV l yX6_mix cX6_mix 6 0 0 E [.ref a_t, .int p1] (wd_X6_mix E a_t a_t_pack x_t_signs w_t_pad x_t_places w_t_page x_t_begins x_t_court x_t_allowed w_t_weight x_t_sights w_t_sight w_t_count x_t_opens w_t_open w_t_behind w_t_outs w_t_image w_t_isKept x_t_pack) (wd_X6_mix E a_t a_t_pack x_t_signs w_t_pad x_t_places w_t_page x_t_begins x_t_court x_t_allowed w_t_weight x_t_sights w_t_sight w_t_count x_t_opens w_t_open w_t_behind w_t_outs w_t_image w_t_isKept res) := by
  refine CtV.of RX6 (by decide) rfl (Nat.le_of_ble_eq_true rfl) ?_
  intro p e s m below meth c A Q ls X hA hP hD hl fin
  have hx := X.1
  have hb := X.2.1
  have hl : lv_has ls 6 [(0, .ref a_t), (1, .int p1)] := hl
  have fin' : ∀ (fr0 : (Nat → Int32)), some fr0 = some res → ∀ (pc : Nat) (ls : Array Slot) (H : Heap) (locs : List Loc), decode cX6_mix pc = .ok (.return_, 1) → va_P E.1 vwCl (wd_X6_mix E a_t a_t_pack x_t_signs w_t_pad x_t_places w_t_page x_t_begins x_t_court x_t_allowed w_t_weight x_t_sights w_t_sight w_t_count x_t_opens w_t_open w_t_behind w_t_outs w_t_image w_t_isKept fr0) H → va_D A (wd_X6_mix E a_t a_t_pack x_t_signs w_t_pad x_t_places w_t_page x_t_begins x_t_court x_t_allowed w_t_weight x_t_sights w_t_sight w_t_count x_t_opens w_t_open w_t_behind w_t_outs w_t_image w_t_isKept fr0) → va_S A s.heap H locs → W p l e (rmm 0 0) s m ([.ref a_t, .int p1] : List Value).toArray below meth c H locs 0 0 Q (F0 m pc ls []) := by
    intro fr0 he
    cases he
    exact fin
  have L9 : ∀ (n9 : Nat) (v2 : Int32) (v3 : Int32) (m_t_pack : Nat → Int32), f_X6_mix_9 n9 v2 v3 m_t_pack = some res → ∀ (H : Heap) (locs : List Loc) (ls : Array Slot), va_P E.1 vwCl (wd_X6_mix E a_t a_t_pack x_t_signs w_t_pad x_t_places w_t_page x_t_begins x_t_court x_t_allowed w_t_weight x_t_sights w_t_sight w_t_count x_t_opens w_t_open w_t_behind w_t_outs w_t_image w_t_isKept m_t_pack) H → va_D A (wd_X6_mix E a_t a_t_pack x_t_signs w_t_pad x_t_places w_t_page x_t_begins x_t_court x_t_allowed w_t_weight x_t_sights w_t_sight w_t_count x_t_opens w_t_open w_t_behind w_t_outs w_t_image w_t_isKept m_t_pack) → va_S A s.heap H locs → lv_has ls 6 [(0, .ref a_t), (2, .int v2), (3, .int v3)] → W p l e (rmm 0 0) s m ([.ref a_t, .int p1] : List Value).toArray below meth c H locs 0 0 Q (F0 m 9 ls []) := by
    intro n9
    induction n9 with
    | zero => intro v2 v3 m_t_pack hf; rw [f_X6_mix_9] at hf; cases hf
    | succ n9 ih9 =>
      intro v2 v3 m_t_pack hf H locs ls hP hD hS hl
      rw [f_X6_mix_9] at hf
      refine lv_iload_n hx hb dX6_mix_9 rfl (lv_at hl 2 rfl) ?_
      refine lv_if_le (tgt := 67) hx hb dX6_mix_10 (by decide) (fun c_10 => ?_) (fun c_10 => ?_)
      · have hf := if_t c_10 hf
        exact fin' _ hf 67 ls H locs dX6_mix_67 hP hD hS
      · have hf := if_f c_10 hf
        refine lv_iload_n hx hb dX6_mix_13 rfl (lv_at hl 1 rfl) ?_
        refine lv_bipush (v := (75 : Int32)) hx hb dX6_mix_14 (by decide) ?_
        refine lv_imul hx hb dX6_mix_16 ?_
        refine lv_bipush (v := (74 : Int32)) hx hb dX6_mix_17 (by decide) ?_
        refine lv_iadd hx hb dX6_mix_19 ?_
        refine lv_ldc (v := (65537 : Int32)) hx hb X.2.2.2.1 (X.2.2.2.2.1 _ k_915) dX6_mix_20 ?_
        refine lv_irem hx hb dX6_mix_22 (by decide) ?_
        refine lv_istore_n (lv' := [(2, .int (((v2 * (75 : Int32)) + (74 : Int32)) - ((v2 * (75 : Int32)) + (74 : Int32)) / (65537 : Int32) * (65537 : Int32))), (0, .ref a_t), (3, .int v3)]) hx hb dX6_mix_23 rfl hl (by decide) rfl (fun ls hl => ?_)
        refine lv_iload_n hx hb dX6_mix_24 rfl (lv_at hl 0 rfl) ?_
        refine lv_iload_n hx hb dX6_mix_25 rfl (lv_at hl 2 rfl) ?_
        refine lv_iconst (v := (1 : Int32)) hx hb dX6_mix_26 (by decide) ?_
        refine lv_iadd hx hb dX6_mix_27 ?_
        obtain ⟨hz28, hf⟩ := ck_some hf
        refine lv_irem hx hb dX6_mix_28 (of_decide_eq_true hz28) ?_
        refine lv_istore (lv' := [(4, .int ((((v2 * (75 : Int32)) + (74 : Int32)) - ((v2 * (75 : Int32)) + (74 : Int32)) / (65537 : Int32) * (65537 : Int32)) - (((v2 * (75 : Int32)) + (74 : Int32)) - ((v2 * (75 : Int32)) + (74 : Int32)) / (65537 : Int32) * (65537 : Int32)) / (v3 + (1 : Int32)) * (v3 + (1 : Int32)))), (2, .int (((v2 * (75 : Int32)) + (74 : Int32)) - ((v2 * (75 : Int32)) + (74 : Int32)) / (65537 : Int32) * (65537 : Int32))), (0, .ref a_t), (3, .int v3)]) hx hb dX6_mix_29 hl (by decide) rfl (fun ls hl => ?_)
        refine lv_aload_n hx hb dX6_mix_31 rfl (lv_at hl 2 rfl) ?_
        refine gf_X6_47 X hP 0 rfl rfl dX6_mix_32 ?_
        refine lv_iload_n hx hb dX6_mix_35 rfl (lv_at hl 3 rfl) ?_
        obtain ⟨hi36, hf⟩ := ck_some hf
        refine r_iald X hP 1 rfl hi36 dX6_mix_36 ?_
        refine lv_istore (lv' := [(5, .int (m_t_pack (ix v3))), (4, .int ((((v2 * (75 : Int32)) + (74 : Int32)) - ((v2 * (75 : Int32)) + (74 : Int32)) / (65537 : Int32) * (65537 : Int32)) - (((v2 * (75 : Int32)) + (74 : Int32)) - ((v2 * (75 : Int32)) + (74 : Int32)) / (65537 : Int32) * (65537 : Int32)) / (v3 + (1 : Int32)) * (v3 + (1 : Int32)))), (2, .int (((v2 * (75 : Int32)) + (74 : Int32)) - ((v2 * (75 : Int32)) + (74 : Int32)) / (65537 : Int32) * (65537 : Int32))), (0, .ref a_t), (3, .int v3)]) hx hb dX6_mix_37 hl (by decide) rfl (fun ls hl => ?_)
        refine lv_aload_n hx hb dX6_mix_39 rfl (lv_at hl 3 rfl) ?_
        refine gf_X6_47 X hP 0 rfl rfl dX6_mix_40 ?_
        refine lv_iload_n hx hb dX6_mix_43 rfl (lv_at hl 4 rfl) ?_
        refine lv_aload_n hx hb dX6_mix_44 rfl (lv_at hl 3 rfl) ?_
        refine gf_X6_47 X hP 0 rfl rfl dX6_mix_45 ?_
        refine lv_iload hx hb dX6_mix_48 (lv_at hl 1 rfl) ?_
        obtain ⟨hi50, hf⟩ := ck_some hf
        refine r_iald X hP 1 rfl hi50 dX6_mix_50 ?_
        refine r_iast X hP hD hS 1 rfl hi36 (ws' := (wd_X6_mix E a_t a_t_pack x_t_signs w_t_pad x_t_places w_t_page x_t_begins x_t_court x_t_allowed w_t_weight x_t_sights w_t_sight w_t_count x_t_opens w_t_open w_t_behind w_t_outs w_t_image w_t_isKept (upd m_t_pack (ix v3) (m_t_pack (ix ((((v2 * (75 : Int32)) + (74 : Int32)) - ((v2 * (75 : Int32)) + (74 : Int32)) / (65537 : Int32) * (65537 : Int32)) - (((v2 * (75 : Int32)) + (74 : Int32)) - ((v2 * (75 : Int32)) + (74 : Int32)) / (65537 : Int32) * (65537 : Int32)) / (v3 + (1 : Int32)) * (v3 + (1 : Int32)))))))) rfl dX6_mix_51 (fun H locs hP hD hS => ?_)
        refine lv_aload_n hx hb dX6_mix_52 rfl (lv_at hl 3 rfl) ?_
        refine gf_X6_47 X hP 0 rfl rfl dX6_mix_53 ?_
        refine lv_iload hx hb dX6_mix_56 (lv_at hl 1 rfl) ?_
        refine lv_iload hx hb dX6_mix_58 (lv_at hl 0 rfl) ?_
        refine r_iast X hP hD hS 1 rfl hi50 (ws' := (wd_X6_mix E a_t a_t_pack x_t_signs w_t_pad x_t_places w_t_page x_t_begins x_t_court x_t_allowed w_t_weight x_t_sights w_t_sight w_t_count x_t_opens w_t_open w_t_behind w_t_outs w_t_image w_t_isKept (upd (upd m_t_pack (ix v3) (m_t_pack (ix ((((v2 * (75 : Int32)) + (74 : Int32)) - ((v2 * (75 : Int32)) + (74 : Int32)) / (65537 : Int32) * (65537 : Int32)) - (((v2 * (75 : Int32)) + (74 : Int32)) - ((v2 * (75 : Int32)) + (74 : Int32)) / (65537 : Int32) * (65537 : Int32)) / (v3 + (1 : Int32)) * (v3 + (1 : Int32)))))) (ix ((((v2 * (75 : Int32)) + (74 : Int32)) - ((v2 * (75 : Int32)) + (74 : Int32)) / (65537 : Int32) * (65537 : Int32)) - (((v2 * (75 : Int32)) + (74 : Int32)) - ((v2 * (75 : Int32)) + (74 : Int32)) / (65537 : Int32) * (65537 : Int32)) / (v3 + (1 : Int32)) * (v3 + (1 : Int32)))) (m_t_pack (ix v3))))) rfl dX6_mix_60 (fun H locs hP hD hS => ?_)
        refine lv_iinc (v := (v3 + (-1 : Int32))) (lv' := [(3, .int (v3 + (-1 : Int32))), (5, .int (m_t_pack (ix v3))), (4, .int ((((v2 * (75 : Int32)) + (74 : Int32)) - ((v2 * (75 : Int32)) + (74 : Int32)) / (65537 : Int32) * (65537 : Int32)) - (((v2 * (75 : Int32)) + (74 : Int32)) - ((v2 * (75 : Int32)) + (74 : Int32)) / (65537 : Int32) * (65537 : Int32)) / (v3 + (1 : Int32)) * (v3 + (1 : Int32)))), (2, .int (((v2 * (75 : Int32)) + (74 : Int32)) - ((v2 * (75 : Int32)) + (74 : Int32)) / (65537 : Int32) * (65537 : Int32))), (0, .ref a_t)]) hx hb dX6_mix_61 hl (k := 4) rfl rfl (by decide) rfl (fun ls hl => ?_)
        refine lv_goto (tgt := 9) hx hb dX6_mix_64 (by decide) ?_
        exact ih9 (((v2 * (75 : Int32)) + (74 : Int32)) - ((v2 * (75 : Int32)) + (74 : Int32)) / (65537 : Int32) * (65537 : Int32)) (v3 + (-1 : Int32)) (upd (upd m_t_pack (ix v3) (m_t_pack (ix ((((v2 * (75 : Int32)) + (74 : Int32)) - ((v2 * (75 : Int32)) + (74 : Int32)) / (65537 : Int32) * (65537 : Int32)) - (((v2 * (75 : Int32)) + (74 : Int32)) - ((v2 * (75 : Int32)) + (74 : Int32)) / (65537 : Int32) * (65537 : Int32)) / (v3 + (1 : Int32)) * (v3 + (1 : Int32)))))) (ix ((((v2 * (75 : Int32)) + (74 : Int32)) - ((v2 * (75 : Int32)) + (74 : Int32)) / (65537 : Int32) * (65537 : Int32)) - (((v2 * (75 : Int32)) + (74 : Int32)) - ((v2 * (75 : Int32)) + (74 : Int32)) / (65537 : Int32) * (65537 : Int32)) / (v3 + (1 : Int32)) * (v3 + (1 : Int32)))) (m_t_pack (ix v3))) hf H locs ls hP hD hS (lv_sub hl [4, 3, 0] rfl)
  have hS : va_S A s.heap s.heap [] := va_S.rf
  obtain ⟨H, hH9⟩ : ∃ z, z = s.heap := ⟨_, rfl⟩
  obtain ⟨locs, hL9⟩ : ∃ z : List Loc, z = [] := ⟨_, rfl⟩
  rw [← hL9]
  rw [← hL9] at hS
  have hP : va_P E.1 vwCl (wd_X6_mix E a_t a_t_pack x_t_signs w_t_pad x_t_places w_t_page x_t_begins x_t_court x_t_allowed w_t_weight x_t_sights w_t_sight w_t_count x_t_opens w_t_open w_t_behind w_t_outs w_t_image w_t_isKept x_t_pack) H := by rw [hH9]; exact hP
  have hS : va_S A s.heap H locs := by rw [hH9]; exact hS
  suffices hgoal : W p l e (rmm 0 0) s m ([.ref a_t, .int p1] : List Value).toArray below meth c H locs 0 0 Q (F0 m 0 ls []) by rw [hH9] at hgoal; exact hgoal
  rw [f_X6_mix] at hf
  refine lv_iload_n hx hb dX6_mix_0 rfl (lv_at hl 1 rfl) ?_
  refine lv_istore_n (lv' := [(2, .int p1), (0, .ref a_t), (1, .int p1)]) hx hb dX6_mix_1 rfl hl (by decide) rfl (fun ls hl => ?_)
  refine lv_aload_n hx hb dX6_mix_2 rfl (lv_at hl 1 rfl) ?_
  refine gf_X6_13 X hP 0 rfl rfl dX6_mix_3 ?_
  refine lv_iconst (v := (1 : Int32)) hx hb dX6_mix_6 (by decide) ?_
  refine lv_isub hx hb dX6_mix_7 ?_
  refine lv_istore_n (lv' := [(3, .int (x_t_places - (1 : Int32))), (2, .int p1), (0, .ref a_t), (1, .int p1)]) hx hb dX6_mix_8 rfl hl (by decide) rfl (fun ls hl => ?_)
  exact L9 FU p1 (x_t_places - (1 : Int32)) x_t_pack hf H locs ls hP hD hS (lv_sub hl [2, 1, 0] rfl)
abbrev wd_X6_shuffle (E : EN) (a_t : Nat) (a_t_pack : Nat) (a_t_page : Nat) (x_t_signs : Int32) (w_t_pad : Value) (x_t_places : Int32) (x_t_begins : Int32) (x_t_court : Int32) (x_t_allowed : Int32) (w_t_weight : Value) (x_t_sights : Int32) (w_t_sight : Value) (w_t_count : Value) (x_t_opens : Int32) (w_t_open : Value) (w_t_behind : Value) (w_t_outs : Value) (w_t_image : Value) (w_t_isKept : Value) (x_t_pack : Nat → Int32) (x_t_page : Nat → Int32) : va_W := [(a_t, e_O 6 [.int x_t_signs, w_t_pad, .int x_t_places, .ref a_t_page, .int x_t_begins, .int x_t_court, .int x_t_allowed, w_t_weight, .int x_t_sights, w_t_sight, w_t_count, .int x_t_opens, w_t_open, w_t_behind, w_t_outs, .ref a_t_pack, w_t_image, w_t_isKept]), (a_t_pack, e_I E 40 x_t_pack), (a_t_page, e_I E 40 x_t_page)]
def f_X6_shuffle_25 (x_t_places : Int32)  : Nat → Int32 → (Nat → Int32) → (Nat → Int32) → Option (Int32 × (Nat → Int32) × (Nat → Int32))
  | 0, _, _, _ => none
  | n_ + 1, v2, m_t_pack, m_t_page =>
    if x_t_places ≤ v2 then
      some (x_t_places, m_t_pack, m_t_page)
    else
      ck (inB v2 40) (
      f_X6_shuffle_25 x_t_places n_ (v2 + (1 : Int32)) m_t_pack (upd m_t_page (ix v2) (m_t_pack (ix v2))))
def f_X6_shuffle (p1 : Int32) (x_t_places : Int32) (x_t_pack : Nat → Int32) (x_t_page : Nat → Int32) : Option (Int32 × (Nat → Int32) × (Nat → Int32)) :=
  Option.bind (f_X6_in p1 (0 : Int32) (9999 : Int32)) (fun r5 =>
  if r5 = 0 then
    some ((-2 : Int32), x_t_pack, x_t_page)
  else
    Option.bind (f_X6_takePack x_t_places x_t_pack x_t_page) (fun r15 =>
    Option.bind (f_X6_mix p1 x_t_places r15) (fun r20 =>
    f_X6_shuffle_25 x_t_places FU (0 : Int32) r20 x_t_page)))
set_option maxHeartbeats 4000000 in
set_option maxRecDepth 100000 in
theorem c_X6_shuffle (l : Launch) (E : EN) (a_t a_t_pack a_t_page : Nat) (x_t_signs : Int32) (w_t_pad : Value) (x_t_places : Int32) (x_t_begins : Int32) (x_t_court : Int32) (x_t_allowed : Int32) (w_t_weight : Value) (x_t_sights : Int32) (w_t_sight : Value) (w_t_count : Value) (x_t_opens : Int32) (w_t_open : Value) (w_t_behind : Value) (w_t_outs : Value) (w_t_image : Value) (w_t_isKept : Value) (x_t_pack : Nat → Int32) (x_t_page : Nat → Int32) (p1 : Int32) (res : Int32 × (Nat → Int32) × (Nat → Int32)) (hf : f_X6_shuffle p1 x_t_places x_t_pack x_t_page = some res) : CtI l yX6_shuffle cX6_shuffle 3 .int 1 25 E [.ref a_t, .int p1] (wd_X6_shuffle E a_t a_t_pack a_t_page x_t_signs w_t_pad x_t_places x_t_begins x_t_court x_t_allowed w_t_weight x_t_sights w_t_sight w_t_count x_t_opens w_t_open w_t_behind w_t_outs w_t_image w_t_isKept x_t_pack x_t_page) (wd_X6_shuffle E a_t a_t_pack a_t_page x_t_signs w_t_pad x_t_places x_t_begins x_t_court x_t_allowed w_t_weight x_t_sights w_t_sight w_t_count x_t_opens w_t_open w_t_behind w_t_outs w_t_image w_t_isKept res.2.1 res.2.2) res.1 := by
  refine CtI.of RX6 (by decide) rfl (Nat.le_of_ble_eq_true rfl) ?_
  intro p e s m below meth c A Q ls X hA hP hD hl fin
  have hx := X.1
  have hb := X.2.1
  have hl : lv_has ls 3 [(0, .ref a_t), (1, .int p1)] := hl
  have fin' : ∀ (fr0 : Int32) (fr1 : (Nat → Int32)) (fr2 : (Nat → Int32)), some (fr0, fr1, fr2) = some res → ∀ (pc : Nat) (ls : Array Slot) (H : Heap) (locs : List Loc), decode cX6_shuffle pc = .ok (.ireturn, 1) → narrow .int (.int fr0) = .int fr0 → va_P E.1 vwCl (wd_X6_shuffle E a_t a_t_pack a_t_page x_t_signs w_t_pad x_t_places x_t_begins x_t_court x_t_allowed w_t_weight x_t_sights w_t_sight w_t_count x_t_opens w_t_open w_t_behind w_t_outs w_t_image w_t_isKept fr1 fr2) H → va_D A (wd_X6_shuffle E a_t a_t_pack a_t_page x_t_signs w_t_pad x_t_places x_t_begins x_t_court x_t_allowed w_t_weight x_t_sights w_t_sight w_t_count x_t_opens w_t_open w_t_behind w_t_outs w_t_image w_t_isKept fr1 fr2) → va_S A s.heap H locs → W p l e (rmm 1 25) s m ([.ref a_t, .int p1] : List Value).toArray below meth c H locs 0 0 Q (F0 m pc ls [.int fr0]) := by
    intro fr0 fr1 fr2 he
    cases he
    exact fin
  have L25 : ∀ (n25 : Nat) (v2 : Int32) (m_t_pack : Nat → Int32) (m_t_page : Nat → Int32), f_X6_shuffle_25 x_t_places n25 v2 m_t_pack m_t_page = some res → ∀ (H : Heap) (locs : List Loc) (ls : Array Slot), va_P E.1 vwCl (wd_X6_shuffle E a_t a_t_pack a_t_page x_t_signs w_t_pad x_t_places x_t_begins x_t_court x_t_allowed w_t_weight x_t_sights w_t_sight w_t_count x_t_opens w_t_open w_t_behind w_t_outs w_t_image w_t_isKept m_t_pack m_t_page) H → va_D A (wd_X6_shuffle E a_t a_t_pack a_t_page x_t_signs w_t_pad x_t_places x_t_begins x_t_court x_t_allowed w_t_weight x_t_sights w_t_sight w_t_count x_t_opens w_t_open w_t_behind w_t_outs w_t_image w_t_isKept m_t_pack m_t_page) → va_S A s.heap H locs → lv_has ls 3 [(0, .ref a_t), (2, .int v2)] → W p l e (rmm 1 25) s m ([.ref a_t, .int p1] : List Value).toArray below meth c H locs 0 0 Q (F0 m 25 ls []) := by
    intro n25
    induction n25 with
    | zero => intro v2 m_t_pack m_t_page hf; rw [f_X6_shuffle_25] at hf; cases hf
    | succ n25 ih25 =>
      intro v2 m_t_pack m_t_page hf H locs ls hP hD hS hl
      rw [f_X6_shuffle_25] at hf
      refine lv_iload_n hx hb dX6_shuffle_25 rfl (lv_at hl 1 rfl) ?_
      refine lv_aload_n hx hb dX6_shuffle_26 rfl (lv_at hl 0 rfl) ?_
      refine gf_X6_13 X hP 0 rfl rfl dX6_shuffle_27 ?_
      refine lv_icmp_ge (tgt := 51) hx hb dX6_shuffle_30 (by decide) (fun c_30 => ?_) (fun c_30 => ?_)
      · have hf := if_t c_30 hf
        refine lv_aload_n hx hb dX6_shuffle_51 rfl (lv_at hl 0 rfl) ?_
        refine gf_X6_13 X hP 0 rfl rfl dX6_shuffle_52 ?_
        exact fin' _ _ _ hf 55 ls H locs dX6_shuffle_55 rfl hP hD hS
      · have hf := if_f c_30 hf
        refine lv_aload_n hx hb dX6_shuffle_33 rfl (lv_at hl 0 rfl) ?_
        refine gf_X6_17 X hP 0 rfl rfl dX6_shuffle_34 ?_
        refine lv_iload_n hx hb dX6_shuffle_37 rfl (lv_at hl 1 rfl) ?_
        refine lv_aload_n hx hb dX6_shuffle_38 rfl (lv_at hl 0 rfl) ?_
        refine gf_X6_47 X hP 0 rfl rfl dX6_shuffle_39 ?_
        refine lv_iload_n hx hb dX6_shuffle_42 rfl (lv_at hl 1 rfl) ?_
        obtain ⟨hi43, hf⟩ := ck_some hf
        refine r_iald X hP 1 rfl hi43 dX6_shuffle_43 ?_
        refine r_iast X hP hD hS 2 rfl hi43 (ws' := (wd_X6_shuffle E a_t a_t_pack a_t_page x_t_signs w_t_pad x_t_places x_t_begins x_t_court x_t_allowed w_t_weight x_t_sights w_t_sight w_t_count x_t_opens w_t_open w_t_behind w_t_outs w_t_image w_t_isKept m_t_pack (upd m_t_page (ix v2) (m_t_pack (ix v2))))) rfl dX6_shuffle_44 (fun H locs hP hD hS => ?_)
        refine lv_iinc (v := (v2 + (1 : Int32))) (lv' := [(2, .int (v2 + (1 : Int32))), (0, .ref a_t)]) hx hb dX6_shuffle_45 hl (k := 1) rfl rfl (by decide) rfl (fun ls hl => ?_)
        refine lv_goto (tgt := 25) hx hb dX6_shuffle_48 (by decide) ?_
        exact ih25 (v2 + (1 : Int32)) m_t_pack (upd m_t_page (ix v2) (m_t_pack (ix v2))) hf H locs ls hP hD hS (lv_sub hl [1, 0] rfl)
  have hS : va_S A s.heap s.heap [] := va_S.rf
  obtain ⟨H, hH9⟩ : ∃ z, z = s.heap := ⟨_, rfl⟩
  obtain ⟨locs, hL9⟩ : ∃ z : List Loc, z = [] := ⟨_, rfl⟩
  rw [← hL9]
  rw [← hL9] at hS
  have hP : va_P E.1 vwCl (wd_X6_shuffle E a_t a_t_pack a_t_page x_t_signs w_t_pad x_t_places x_t_begins x_t_court x_t_allowed w_t_weight x_t_sights w_t_sight w_t_count x_t_opens w_t_open w_t_behind w_t_outs w_t_image w_t_isKept x_t_pack x_t_page) H := by rw [hH9]; exact hP
  have hS : va_S A s.heap H locs := by rw [hH9]; exact hS
  suffices hgoal : W p l e (rmm 1 25) s m ([.ref a_t, .int p1] : List Value).toArray below meth c H locs 0 0 Q (F0 m 0 ls []) by rw [hH9] at hgoal; exact hgoal
  rw [f_X6_shuffle] at hf
  refine lv_iload_n hx hb dX6_shuffle_0 rfl (lv_at hl 1 rfl) ?_
  refine lv_iconst (v := (0 : Int32)) hx hb dX6_shuffle_1 (by decide) ?_
  refine lv_sipush (v := (9999 : Int32)) hx hb dX6_shuffle_2 (by decide) ?_
  obtain ⟨r5, hc5, hf⟩ := bd_some hf
  refine cS_I X hA hP hD hS hl.1 (c_X6_in l E p1 (0 : Int32) (9999 : Int32) r5 hc5) 3 k_692 mw_X6_in hd_X6_in ⟨Nat.le_of_ble_eq_true rfl, Nat.le_of_ble_eq_true rfl⟩ [] [0, 1, 2] [0, 1, 2] rfl rfl (wr := [0, 1, 2].filterMap (fun i => (wd_X6_shuffle E a_t a_t_pack a_t_page x_t_signs w_t_pad x_t_places x_t_begins x_t_court x_t_allowed w_t_weight x_t_sights w_t_sight w_t_count x_t_opens w_t_open w_t_behind w_t_outs w_t_image w_t_isKept x_t_pack x_t_page)[i]?)) rfl rfl rfl rfl rfl (Nat.le_of_ble_eq_true rfl) rfl (ws' := (wd_X6_shuffle E a_t a_t_pack a_t_page x_t_signs w_t_pad x_t_places x_t_begins x_t_court x_t_allowed w_t_weight x_t_sights w_t_sight w_t_count x_t_opens w_t_open w_t_behind w_t_outs w_t_image w_t_isKept x_t_pack x_t_page)) rfl ⟨Nat.le_of_ble_eq_true rfl, Nat.le_of_ble_eq_true rfl⟩ dX6_shuffle_5 (fun H locs hP hD hS => ?_)
  refine lv_if_ne (tgt := 14) hx hb dX6_shuffle_8 (by decide) (fun c_8 => ?_) (fun c_8 => ?_)
  · have hf := if_f c_8 hf
    refine lv_aload_n hx hb dX6_shuffle_14 rfl (lv_at hl 0 rfl) ?_
    obtain ⟨r15, hc15, hf⟩ := bd_some hf
    refine cV_V X hA hP hD hS hl.1 (c_X6_takePack l E a_t a_t_pack a_t_page x_t_signs w_t_pad x_t_places x_t_begins x_t_court x_t_allowed w_t_weight x_t_sights w_t_sight w_t_count x_t_opens w_t_open w_t_behind w_t_outs w_t_image w_t_isKept x_t_pack x_t_page r15 hc15) 0 k_907 mw_X6_takePack hd_X6_takePack ⟨Nat.le_of_ble_eq_true rfl, Nat.le_of_ble_eq_true rfl⟩ [0, 1, 2] [] [0, 1, 2] rfl rfl (wr := []) rfl rfl rfl 6 0 rfl rfl rfl rfl rfl (Nat.le_of_ble_eq_true rfl) rfl (ws' := (wd_X6_shuffle E a_t a_t_pack a_t_page x_t_signs w_t_pad x_t_places x_t_begins x_t_court x_t_allowed w_t_weight x_t_sights w_t_sight w_t_count x_t_opens w_t_open w_t_behind w_t_outs w_t_image w_t_isKept r15 x_t_page)) rfl ⟨Nat.le_of_ble_eq_true rfl, Nat.le_of_ble_eq_true rfl⟩ dX6_shuffle_15 (fun H locs hP hD hS => ?_)
    refine lv_aload_n hx hb dX6_shuffle_18 rfl (lv_at hl 0 rfl) ?_
    refine lv_iload_n hx hb dX6_shuffle_19 rfl (lv_at hl 1 rfl) ?_
    obtain ⟨r20, hc20, hf⟩ := bd_some hf
    refine cV_V X hA hP hD hS hl.1 (c_X6_mix l E a_t a_t_pack x_t_signs w_t_pad x_t_places (.ref a_t_page) x_t_begins x_t_court x_t_allowed w_t_weight x_t_sights w_t_sight w_t_count x_t_opens w_t_open w_t_behind w_t_outs w_t_image w_t_isKept r15 p1 r20 hc20) 1 k_911 mw_X6_mix hd_X6_mix ⟨Nat.le_of_ble_eq_true rfl, Nat.le_of_ble_eq_true rfl⟩ [0, 1] [2] [1, 2, 0] rfl rfl (wr := [2].filterMap (fun i => (wd_X6_shuffle E a_t a_t_pack a_t_page x_t_signs w_t_pad x_t_places x_t_begins x_t_court x_t_allowed w_t_weight x_t_sights w_t_sight w_t_count x_t_opens w_t_open w_t_behind w_t_outs w_t_image w_t_isKept r15 x_t_page)[i]?)) rfl rfl rfl 6 0 rfl rfl rfl rfl rfl (Nat.le_of_ble_eq_true rfl) rfl (ws' := (wd_X6_shuffle E a_t a_t_pack a_t_page x_t_signs w_t_pad x_t_places x_t_begins x_t_court x_t_allowed w_t_weight x_t_sights w_t_sight w_t_count x_t_opens w_t_open w_t_behind w_t_outs w_t_image w_t_isKept r20 x_t_page)) rfl ⟨Nat.le_of_ble_eq_true rfl, Nat.le_of_ble_eq_true rfl⟩ dX6_shuffle_20 (fun H locs hP hD hS => ?_)
    refine lv_iconst (v := (0 : Int32)) hx hb dX6_shuffle_23 (by decide) ?_
    refine lv_istore_n (lv' := [(2, .int (0 : Int32)), (0, .ref a_t), (1, .int p1)]) hx hb dX6_shuffle_24 rfl hl (by decide) rfl (fun ls hl => ?_)
    exact L25 FU (0 : Int32) r20 x_t_page hf H locs ls hP hD hS (lv_sub hl [1, 0] rfl)
  · have hf := if_t c_8 hf
    refine lv_bipush (v := (-2 : Int32)) hx hb dX6_shuffle_11 (by decide) ?_
    exact fin' _ _ _ hf 13 ls H locs dX6_shuffle_13 rfl hP hD hS
abbrev wd_X6_wrong (E : EN) (a_t : Nat) (a_t_page : Nat) (a_t_pack : Nat) (a_t_count : Nat) (x_t_signs : Int32) (w_t_pad : Value) (x_t_places : Int32) (x_t_begins : Int32) (x_t_court : Int32) (x_t_allowed : Int32) (w_t_weight : Value) (x_t_sights : Int32) (w_t_sight : Value) (x_t_opens : Int32) (w_t_open : Value) (w_t_behind : Value) (w_t_outs : Value) (w_t_image : Value) (w_t_isKept : Value) (x_t_page : Nat → Int32) (x_t_pack : Nat → Int32) (x_t_count : Nat → Int32) : va_W := [(a_t, e_O 6 [.int x_t_signs, w_t_pad, .int x_t_places, .ref a_t_page, .int x_t_begins, .int x_t_court, .int x_t_allowed, w_t_weight, .int x_t_sights, w_t_sight, .ref a_t_count, .int x_t_opens, w_t_open, w_t_behind, w_t_outs, .ref a_t_pack, w_t_image, w_t_isKept]), (a_t_page, e_I E 40 x_t_page), (a_t_pack, e_I E 40 x_t_pack), (a_t_count, e_I E 40 x_t_count)]
def f_X6_wrong_53 (p1 : Int32) (p2 : Int32) (x_t_places : Int32) (x_t_court : Int32) (K_33 : Int32 → Int32 → (Nat → Int32) → (Nat → Int32) → Option (Int32 × (Nat → Int32) × (Nat → Int32))) : Nat → Int32 → Int32 → Int32 → (Nat → Int32) → (Nat → Int32) → Option (Int32 × (Nat → Int32) × (Nat → Int32))
  | 0, _, _, _, _, _ => none
  | n_ + 1, v3, v4, v5, m_t_pack, m_t_count =>
    if x_t_places ≤ v5 then
      Option.bind (f_X6_meetOf p1 p2 x_t_places m_t_count) (fun r93 =>
      if 0 ≤ r93 then
        K_33 (v3 + (0 : Int32)) (v4 + (1 : Int32)) m_t_pack m_t_count
      else
        K_33 (v3 + (1 : Int32)) (v4 + (1 : Int32)) m_t_pack m_t_count)
    else
      ck (inB v5 40) (
      Option.bind (f_X6_countOf (m_t_pack (ix v5)) x_t_court) (fun r79 =>
      f_X6_wrong_53 p1 p2 x_t_places x_t_court K_33 n_ v3 v4 (v5 + (1 : Int32)) m_t_pack (upd m_t_count (ix v5) r79)))
def f_X6_wrong_33 (p1 : Int32) (p2 : Int32) (x_t_places : Int32) (x_t_court : Int32) (x_t_page : Nat → Int32)  : Nat → Int32 → Int32 → (Nat → Int32) → (Nat → Int32) → Option (Int32 × (Nat → Int32) × (Nat → Int32))
  | 0, _, _, _, _ => none
  | n_ + 1, v3, v4, m_t_pack, m_t_count =>
    if (100 : Int32) ≤ v4 then
      some (v3, m_t_pack, m_t_count)
    else
      Option.bind (f_X6_takePack x_t_places m_t_pack x_t_page) (fun r41 =>
      Option.bind (f_X6_mix v4 x_t_places r41) (fun r47 =>
      f_X6_wrong_53 p1 p2 x_t_places x_t_court (f_X6_wrong_33 p1 p2 x_t_places x_t_court x_t_page n_) FU v3 v4 (0 : Int32) r47 m_t_count))
def f_X6_wrong (p1 : Int32) (p2 : Int32) (x_t_places : Int32) (x_t_court : Int32) (x_t_page : Nat → Int32) (x_t_pack : Nat → Int32) (x_t_count : Nat → Int32) : Option (Int32 × (Nat → Int32) × (Nat → Int32)) :=
  Option.bind (f_X6_isPlace p1 x_t_places) (fun r2 =>
  if r2 = 0 then
    some ((-1 : Int32), x_t_pack, x_t_count)
  else
    Option.bind (f_X6_isPlace p2 x_t_places) (fun r10 =>
    if r10 = 0 then
      some ((-1 : Int32), x_t_pack, x_t_count)
    else
      Option.bind (f_X6_isWhole x_t_places x_t_page) (fun r19 =>
      if r19 = 0 then
        some ((-3 : Int32), x_t_pack, x_t_count)
      else
        f_X6_wrong_33 p1 p2 x_t_places x_t_court x_t_page FU (0 : Int32) (0 : Int32) x_t_pack x_t_count)))
set_option maxHeartbeats 4000000 in
set_option maxRecDepth 100000 in
theorem c_X6_wrong (l : Launch) (E : EN) (a_t a_t_page a_t_pack a_t_count : Nat) (x_t_signs : Int32) (w_t_pad : Value) (x_t_places : Int32) (x_t_begins : Int32) (x_t_court : Int32) (x_t_allowed : Int32) (w_t_weight : Value) (x_t_sights : Int32) (w_t_sight : Value) (x_t_opens : Int32) (w_t_open : Value) (w_t_behind : Value) (w_t_outs : Value) (w_t_image : Value) (w_t_isKept : Value) (x_t_page : Nat → Int32) (x_t_pack : Nat → Int32) (x_t_count : Nat → Int32) (p1 : Int32) (p2 : Int32) (res : Int32 × (Nat → Int32) × (Nat → Int32)) (hf : f_X6_wrong p1 p2 x_t_places x_t_court x_t_page x_t_pack x_t_count = some res) : CtI l yX6_wrong cX6_wrong 6 .int 2 43 E [.ref a_t, .int p1, .int p2] (wd_X6_wrong E a_t a_t_page a_t_pack a_t_count x_t_signs w_t_pad x_t_places x_t_begins x_t_court x_t_allowed w_t_weight x_t_sights w_t_sight x_t_opens w_t_open w_t_behind w_t_outs w_t_image w_t_isKept x_t_page x_t_pack x_t_count) (wd_X6_wrong E a_t a_t_page a_t_pack a_t_count x_t_signs w_t_pad x_t_places x_t_begins x_t_court x_t_allowed w_t_weight x_t_sights w_t_sight x_t_opens w_t_open w_t_behind w_t_outs w_t_image w_t_isKept x_t_page res.2.1 res.2.2) res.1 := by
  refine CtI.of RX6 (by decide) rfl (Nat.le_of_ble_eq_true rfl) ?_
  intro p e s m below meth c A Q ls X hA hP hD hl fin
  have hx := X.1
  have hb := X.2.1
  have hl : lv_has ls 6 [(0, .ref a_t), (1, .int p1), (2, .int p2)] := hl
  have fin' : ∀ (fr0 : Int32) (fr1 : (Nat → Int32)) (fr2 : (Nat → Int32)), some (fr0, fr1, fr2) = some res → ∀ (pc : Nat) (ls : Array Slot) (H : Heap) (locs : List Loc), decode cX6_wrong pc = .ok (.ireturn, 1) → narrow .int (.int fr0) = .int fr0 → va_P E.1 vwCl (wd_X6_wrong E a_t a_t_page a_t_pack a_t_count x_t_signs w_t_pad x_t_places x_t_begins x_t_court x_t_allowed w_t_weight x_t_sights w_t_sight x_t_opens w_t_open w_t_behind w_t_outs w_t_image w_t_isKept x_t_page fr1 fr2) H → va_D A (wd_X6_wrong E a_t a_t_page a_t_pack a_t_count x_t_signs w_t_pad x_t_places x_t_begins x_t_court x_t_allowed w_t_weight x_t_sights w_t_sight x_t_opens w_t_open w_t_behind w_t_outs w_t_image w_t_isKept x_t_page fr1 fr2) → va_S A s.heap H locs → W p l e (rmm 2 43) s m ([.ref a_t, .int p1, .int p2] : List Value).toArray below meth c H locs 0 0 Q (F0 m pc ls [.int fr0]) := by
    intro fr0 fr1 fr2 he
    cases he
    exact fin
  have L33 : ∀ (n33 : Nat) (v3 : Int32) (v4 : Int32) (m_t_pack : Nat → Int32) (m_t_count : Nat → Int32), f_X6_wrong_33 p1 p2 x_t_places x_t_court x_t_page n33 v3 v4 m_t_pack m_t_count = some res → ∀ (H : Heap) (locs : List Loc) (ls : Array Slot), va_P E.1 vwCl (wd_X6_wrong E a_t a_t_page a_t_pack a_t_count x_t_signs w_t_pad x_t_places x_t_begins x_t_court x_t_allowed w_t_weight x_t_sights w_t_sight x_t_opens w_t_open w_t_behind w_t_outs w_t_image w_t_isKept x_t_page m_t_pack m_t_count) H → va_D A (wd_X6_wrong E a_t a_t_page a_t_pack a_t_count x_t_signs w_t_pad x_t_places x_t_begins x_t_court x_t_allowed w_t_weight x_t_sights w_t_sight x_t_opens w_t_open w_t_behind w_t_outs w_t_image w_t_isKept x_t_page m_t_pack m_t_count) → va_S A s.heap H locs → lv_has ls 6 [(0, .ref a_t), (1, .int p1), (2, .int p2), (3, .int v3), (4, .int v4)] → W p l e (rmm 2 43) s m ([.ref a_t, .int p1, .int p2] : List Value).toArray below meth c H locs 0 0 Q (F0 m 33 ls []) := by
    intro n33
    induction n33 with
    | zero => intro v3 v4 m_t_pack m_t_count hf; rw [f_X6_wrong_33] at hf; cases hf
    | succ n33 ih33 =>
      have L53 : ∀ (n53 : Nat) (v3 : Int32) (v4 : Int32) (v5 : Int32) (m_t_pack : Nat → Int32) (m_t_count : Nat → Int32), f_X6_wrong_53 p1 p2 x_t_places x_t_court (f_X6_wrong_33 p1 p2 x_t_places x_t_court x_t_page n33) n53 v3 v4 v5 m_t_pack m_t_count = some res → ∀ (H : Heap) (locs : List Loc) (ls : Array Slot), va_P E.1 vwCl (wd_X6_wrong E a_t a_t_page a_t_pack a_t_count x_t_signs w_t_pad x_t_places x_t_begins x_t_court x_t_allowed w_t_weight x_t_sights w_t_sight x_t_opens w_t_open w_t_behind w_t_outs w_t_image w_t_isKept x_t_page m_t_pack m_t_count) H → va_D A (wd_X6_wrong E a_t a_t_page a_t_pack a_t_count x_t_signs w_t_pad x_t_places x_t_begins x_t_court x_t_allowed w_t_weight x_t_sights w_t_sight x_t_opens w_t_open w_t_behind w_t_outs w_t_image w_t_isKept x_t_page m_t_pack m_t_count) → va_S A s.heap H locs → lv_has ls 6 [(0, .ref a_t), (1, .int p1), (2, .int p2), (3, .int v3), (4, .int v4), (5, .int v5)] → W p l e (rmm 2 43) s m ([.ref a_t, .int p1, .int p2] : List Value).toArray below meth c H locs 0 0 Q (F0 m 53 ls []) := by
        intro n53
        induction n53 with
        | zero => intro v3 v4 v5 m_t_pack m_t_count hf; rw [f_X6_wrong_53] at hf; cases hf
        | succ n53 ih53 =>
          intro v3 v4 v5 m_t_pack m_t_count hf H locs ls hP hD hS hl
          rw [f_X6_wrong_53] at hf
          refine lv_iload hx hb dX6_wrong_53 (lv_at hl 5 rfl) ?_
          refine lv_aload_n hx hb dX6_wrong_55 rfl (lv_at hl 0 rfl) ?_
          refine gf_X6_13 X hP 0 rfl rfl dX6_wrong_56 ?_
          refine lv_icmp_ge (tgt := 89) hx hb dX6_wrong_59 (by decide) (fun c_59 => ?_) (fun c_59 => ?_)
          · have hf := if_t c_59 hf
            refine lv_iload_n hx hb dX6_wrong_89 rfl (lv_at hl 3 rfl) ?_
            refine lv_aload_n hx hb dX6_wrong_90 rfl (lv_at hl 0 rfl) ?_
            refine lv_iload_n hx hb dX6_wrong_91 rfl (lv_at hl 1 rfl) ?_
            refine lv_iload_n hx hb dX6_wrong_92 rfl (lv_at hl 2 rfl) ?_
            obtain ⟨r93, hc93, hf⟩ := bd_some hf
            refine cV_I X hA hP hD hS hl.1 (c_X6_meetOf l E a_t a_t_count x_t_signs w_t_pad x_t_places (.ref a_t_page) x_t_begins x_t_court x_t_allowed w_t_weight x_t_sights w_t_sight x_t_opens w_t_open w_t_behind w_t_outs (.ref a_t_pack) w_t_image w_t_isKept m_t_count p1 p2 r93 hc93) 2 k_777 mw_X6_meetOf hd_X6_meetOf ⟨Nat.le_of_ble_eq_true rfl, Nat.le_of_ble_eq_true rfl⟩ [0, 3] [1, 2] [2, 0, 1, 3] rfl rfl (wr := [1, 2].filterMap (fun i => (wd_X6_wrong E a_t a_t_page a_t_pack a_t_count x_t_signs w_t_pad x_t_places x_t_begins x_t_court x_t_allowed w_t_weight x_t_sights w_t_sight x_t_opens w_t_open w_t_behind w_t_outs w_t_image w_t_isKept x_t_page m_t_pack m_t_count)[i]?)) rfl rfl rfl 6 0 rfl rfl rfl rfl rfl (Nat.le_of_ble_eq_true rfl) rfl (ws' := (wd_X6_wrong E a_t a_t_page a_t_pack a_t_count x_t_signs w_t_pad x_t_places x_t_begins x_t_court x_t_allowed w_t_weight x_t_sights w_t_sight x_t_opens w_t_open w_t_behind w_t_outs w_t_image w_t_isKept x_t_page m_t_pack m_t_count)) rfl ⟨Nat.le_of_ble_eq_true rfl, Nat.le_of_ble_eq_true rfl⟩ dX6_wrong_93 (fun H locs hP hD hS => ?_)
            refine lv_if_ge (tgt := 103) hx hb dX6_wrong_96 (by decide) (fun c_96 => ?_) (fun c_96 => ?_)
            · have hf := if_t c_96 hf
              refine lv_iconst (v := (0 : Int32)) hx hb dX6_wrong_103 (by decide) ?_
              refine lv_iadd hx hb dX6_wrong_104 ?_
              refine lv_istore_n (lv' := [(3, .int (v3 + (0 : Int32))), (0, .ref a_t), (1, .int p1), (2, .int p2), (4, .int v4), (5, .int v5)]) hx hb dX6_wrong_105 rfl hl (by decide) rfl (fun ls hl => ?_)
              refine lv_iinc (v := (v4 + (1 : Int32))) (lv' := [(4, .int (v4 + (1 : Int32))), (3, .int (v3 + (0 : Int32))), (0, .ref a_t), (1, .int p1), (2, .int p2), (5, .int v5)]) hx hb dX6_wrong_106 hl (k := 4) rfl rfl (by decide) rfl (fun ls hl => ?_)
              refine lv_goto (tgt := 33) hx hb dX6_wrong_109 (by decide) ?_
              exact ih33 (v3 + (0 : Int32)) (v4 + (1 : Int32)) m_t_pack m_t_count hf H locs ls hP hD hS (lv_sub hl [2, 3, 4, 1, 0] rfl)
            · have hf := if_f c_96 hf
              refine lv_iconst (v := (1 : Int32)) hx hb dX6_wrong_99 (by decide) ?_
              refine lv_goto (tgt := 104) hx hb dX6_wrong_100 (by decide) ?_
              refine lv_iadd hx hb dX6_wrong_104 ?_
              refine lv_istore_n (lv' := [(3, .int (v3 + (1 : Int32))), (0, .ref a_t), (1, .int p1), (2, .int p2), (4, .int v4), (5, .int v5)]) hx hb dX6_wrong_105 rfl hl (by decide) rfl (fun ls hl => ?_)
              refine lv_iinc (v := (v4 + (1 : Int32))) (lv' := [(4, .int (v4 + (1 : Int32))), (3, .int (v3 + (1 : Int32))), (0, .ref a_t), (1, .int p1), (2, .int p2), (5, .int v5)]) hx hb dX6_wrong_106 hl (k := 4) rfl rfl (by decide) rfl (fun ls hl => ?_)
              refine lv_goto (tgt := 33) hx hb dX6_wrong_109 (by decide) ?_
              exact ih33 (v3 + (1 : Int32)) (v4 + (1 : Int32)) m_t_pack m_t_count hf H locs ls hP hD hS (lv_sub hl [2, 3, 4, 1, 0] rfl)
          · have hf := if_f c_59 hf
            refine lv_aload_n hx hb dX6_wrong_62 rfl (lv_at hl 0 rfl) ?_
            refine gf_X6_35 X hP 0 rfl rfl dX6_wrong_63 ?_
            refine lv_iload hx hb dX6_wrong_66 (lv_at hl 5 rfl) ?_
            refine lv_aload_n hx hb dX6_wrong_68 rfl (lv_at hl 0 rfl) ?_
            refine gf_X6_47 X hP 0 rfl rfl dX6_wrong_69 ?_
            refine lv_iload hx hb dX6_wrong_72 (lv_at hl 5 rfl) ?_
            obtain ⟨hi74, hf⟩ := ck_some hf
            refine r_iald X hP 2 rfl hi74 dX6_wrong_74 ?_
            refine lv_aload_n hx hb dX6_wrong_75 rfl (lv_at hl 0 rfl) ?_
            refine gf_X6_23 X hP 0 rfl rfl dX6_wrong_76 ?_
            obtain ⟨r79, hc79, hf⟩ := bd_some hf
            refine cS_I X hA hP hD hS hl.1 (c_X6_countOf l E (m_t_pack (ix v5)) x_t_court r79 hc79) 2 k_742 mw_X6_countOf hd_X6_countOf ⟨Nat.le_of_ble_eq_true rfl, Nat.le_of_ble_eq_true rfl⟩ [] [0, 1, 2, 3] [0, 1, 2, 3] rfl rfl (wr := [0, 1, 2, 3].filterMap (fun i => (wd_X6_wrong E a_t a_t_page a_t_pack a_t_count x_t_signs w_t_pad x_t_places x_t_begins x_t_court x_t_allowed w_t_weight x_t_sights w_t_sight x_t_opens w_t_open w_t_behind w_t_outs w_t_image w_t_isKept x_t_page m_t_pack m_t_count)[i]?)) rfl rfl rfl rfl rfl (Nat.le_of_ble_eq_true rfl) rfl (ws' := (wd_X6_wrong E a_t a_t_page a_t_pack a_t_count x_t_signs w_t_pad x_t_places x_t_begins x_t_court x_t_allowed w_t_weight x_t_sights w_t_sight x_t_opens w_t_open w_t_behind w_t_outs w_t_image w_t_isKept x_t_page m_t_pack m_t_count)) rfl ⟨Nat.le_of_ble_eq_true rfl, Nat.le_of_ble_eq_true rfl⟩ dX6_wrong_79 (fun H locs hP hD hS => ?_)
            refine r_iast X hP hD hS 3 rfl hi74 (ws' := (wd_X6_wrong E a_t a_t_page a_t_pack a_t_count x_t_signs w_t_pad x_t_places x_t_begins x_t_court x_t_allowed w_t_weight x_t_sights w_t_sight x_t_opens w_t_open w_t_behind w_t_outs w_t_image w_t_isKept x_t_page m_t_pack (upd m_t_count (ix v5) r79))) rfl dX6_wrong_82 (fun H locs hP hD hS => ?_)
            refine lv_iinc (v := (v5 + (1 : Int32))) (lv' := [(5, .int (v5 + (1 : Int32))), (0, .ref a_t), (1, .int p1), (2, .int p2), (3, .int v3), (4, .int v4)]) hx hb dX6_wrong_83 hl (k := 5) rfl rfl (by decide) rfl (fun ls hl => ?_)
            refine lv_goto (tgt := 53) hx hb dX6_wrong_86 (by decide) ?_
            exact ih53 v3 v4 (v5 + (1 : Int32)) m_t_pack (upd m_t_count (ix v5) r79) hf H locs ls hP hD hS (lv_sub hl [1, 2, 3, 4, 5, 0] rfl)
      intro v3 v4 m_t_pack m_t_count hf H locs ls hP hD hS hl
      rw [f_X6_wrong_33] at hf
      refine lv_iload hx hb dX6_wrong_33 (lv_at hl 4 rfl) ?_
      refine lv_bipush (v := (100 : Int32)) hx hb dX6_wrong_35 (by decide) ?_
      refine lv_icmp_ge (tgt := 112) hx hb dX6_wrong_37 (by decide) (fun c_37 => ?_) (fun c_37 => ?_)
      · have hf := if_t c_37 hf
        refine lv_iload_n hx hb dX6_wrong_112 rfl (lv_at hl 3 rfl) ?_
        exact fin' _ _ _ hf 113 ls H locs dX6_wrong_113 rfl hP hD hS
      · have hf := if_f c_37 hf
        refine lv_aload_n hx hb dX6_wrong_40 rfl (lv_at hl 0 rfl) ?_
        obtain ⟨r41, hc41, hf⟩ := bd_some hf
        refine cV_V X hA hP hD hS hl.1 (c_X6_takePack l E a_t a_t_pack a_t_page x_t_signs w_t_pad x_t_places x_t_begins x_t_court x_t_allowed w_t_weight x_t_sights w_t_sight (.ref a_t_count) x_t_opens w_t_open w_t_behind w_t_outs w_t_image w_t_isKept m_t_pack x_t_page r41 hc41) 0 k_907 mw_X6_takePack hd_X6_takePack ⟨Nat.le_of_ble_eq_true rfl, Nat.le_of_ble_eq_true rfl⟩ [0, 2, 1] [3] [1, 3, 2, 0] rfl rfl (wr := [3].filterMap (fun i => (wd_X6_wrong E a_t a_t_page a_t_pack a_t_count x_t_signs w_t_pad x_t_places x_t_begins x_t_court x_t_allowed w_t_weight x_t_sights w_t_sight x_t_opens w_t_open w_t_behind w_t_outs w_t_image w_t_isKept x_t_page m_t_pack m_t_count)[i]?)) rfl rfl rfl 6 0 rfl rfl rfl rfl rfl (Nat.le_of_ble_eq_true rfl) rfl (ws' := (wd_X6_wrong E a_t a_t_page a_t_pack a_t_count x_t_signs w_t_pad x_t_places x_t_begins x_t_court x_t_allowed w_t_weight x_t_sights w_t_sight x_t_opens w_t_open w_t_behind w_t_outs w_t_image w_t_isKept x_t_page r41 m_t_count)) rfl ⟨Nat.le_of_ble_eq_true rfl, Nat.le_of_ble_eq_true rfl⟩ dX6_wrong_41 (fun H locs hP hD hS => ?_)
        refine lv_aload_n hx hb dX6_wrong_44 rfl (lv_at hl 0 rfl) ?_
        refine lv_iload hx hb dX6_wrong_45 (lv_at hl 4 rfl) ?_
        obtain ⟨r47, hc47, hf⟩ := bd_some hf
        refine cV_V X hA hP hD hS hl.1 (c_X6_mix l E a_t a_t_pack x_t_signs w_t_pad x_t_places (.ref a_t_page) x_t_begins x_t_court x_t_allowed w_t_weight x_t_sights w_t_sight (.ref a_t_count) x_t_opens w_t_open w_t_behind w_t_outs w_t_image w_t_isKept r41 v4 r47 hc47) 1 k_911 mw_X6_mix hd_X6_mix ⟨Nat.le_of_ble_eq_true rfl, Nat.le_of_ble_eq_true rfl⟩ [0, 2] [1, 3] [2, 0, 3, 1] rfl rfl (wr := [1, 3].filterMap (fun i => (wd_X6_wrong E a_t a_t_page a_t_pack a_t_count x_t_signs w_t_pad x_t_places x_t_begins x_t_court x_t_allowed w_t_weight x_t_sights w_t_sight x_t_opens w_t_open w_t_behind w_t_outs w_t_image w_t_isKept x_t_page r41 m_t_count)[i]?)) rfl rfl rfl 6 0 rfl rfl rfl rfl rfl (Nat.le_of_ble_eq_true rfl) rfl (ws' := (wd_X6_wrong E a_t a_t_page a_t_pack a_t_count x_t_signs w_t_pad x_t_places x_t_begins x_t_court x_t_allowed w_t_weight x_t_sights w_t_sight x_t_opens w_t_open w_t_behind w_t_outs w_t_image w_t_isKept x_t_page r47 m_t_count)) rfl ⟨Nat.le_of_ble_eq_true rfl, Nat.le_of_ble_eq_true rfl⟩ dX6_wrong_47 (fun H locs hP hD hS => ?_)
        refine lv_iconst (v := (0 : Int32)) hx hb dX6_wrong_50 (by decide) ?_
        refine lv_istore (lv' := [(5, .int (0 : Int32)), (0, .ref a_t), (1, .int p1), (2, .int p2), (3, .int v3), (4, .int v4)]) hx hb dX6_wrong_51 hl (by decide) rfl (fun ls hl => ?_)
        exact L53 FU v3 v4 (0 : Int32) r47 m_t_count hf H locs ls hP hD hS (lv_sub hl [1, 2, 3, 4, 5, 0] rfl)
  have hS : va_S A s.heap s.heap [] := va_S.rf
  obtain ⟨H, hH9⟩ : ∃ z, z = s.heap := ⟨_, rfl⟩
  obtain ⟨locs, hL9⟩ : ∃ z : List Loc, z = [] := ⟨_, rfl⟩
  rw [← hL9]
  rw [← hL9] at hS
  have hP : va_P E.1 vwCl (wd_X6_wrong E a_t a_t_page a_t_pack a_t_count x_t_signs w_t_pad x_t_places x_t_begins x_t_court x_t_allowed w_t_weight x_t_sights w_t_sight x_t_opens w_t_open w_t_behind w_t_outs w_t_image w_t_isKept x_t_page x_t_pack x_t_count) H := by rw [hH9]; exact hP
  have hS : va_S A s.heap H locs := by rw [hH9]; exact hS
  suffices hgoal : W p l e (rmm 2 43) s m ([.ref a_t, .int p1, .int p2] : List Value).toArray below meth c H locs 0 0 Q (F0 m 0 ls []) by rw [hH9] at hgoal; exact hgoal
  rw [f_X6_wrong] at hf
  refine lv_aload_n hx hb dX6_wrong_0 rfl (lv_at hl 0 rfl) ?_
  refine lv_iload_n hx hb dX6_wrong_1 rfl (lv_at hl 1 rfl) ?_
  obtain ⟨r2, hc2, hf⟩ := bd_some hf
  refine cV_I X hA hP hD hS hl.1 (c_X6_isPlace l E a_t x_t_signs w_t_pad x_t_places (.ref a_t_page) x_t_begins x_t_court x_t_allowed w_t_weight x_t_sights w_t_sight (.ref a_t_count) x_t_opens w_t_open w_t_behind w_t_outs (.ref a_t_pack) w_t_image w_t_isKept p1 r2 hc2) 1 k_738 mw_X6_isPlace hd_X6_isPlace ⟨Nat.le_of_ble_eq_true rfl, Nat.le_of_ble_eq_true rfl⟩ [0] [1, 2, 3] [3, 0, 1, 2] rfl rfl (wr := [1, 2, 3].filterMap (fun i => (wd_X6_wrong E a_t a_t_page a_t_pack a_t_count x_t_signs w_t_pad x_t_places x_t_begins x_t_court x_t_allowed w_t_weight x_t_sights w_t_sight x_t_opens w_t_open w_t_behind w_t_outs w_t_image w_t_isKept x_t_page x_t_pack x_t_count)[i]?)) rfl rfl rfl 6 0 rfl rfl rfl rfl rfl (Nat.le_of_ble_eq_true rfl) rfl (ws' := (wd_X6_wrong E a_t a_t_page a_t_pack a_t_count x_t_signs w_t_pad x_t_places x_t_begins x_t_court x_t_allowed w_t_weight x_t_sights w_t_sight x_t_opens w_t_open w_t_behind w_t_outs w_t_image w_t_isKept x_t_page x_t_pack x_t_count)) rfl ⟨Nat.le_of_ble_eq_true rfl, Nat.le_of_ble_eq_true rfl⟩ dX6_wrong_2 (fun H locs hP hD hS => ?_)
  refine lv_if_eq (tgt := 16) hx hb dX6_wrong_5 (by decide) (fun c_5 => ?_) (fun c_5 => ?_)
  · have hf := if_t c_5 hf
    refine lv_iconst (v := (-1 : Int32)) hx hb dX6_wrong_16 (by decide) ?_
    exact fin' _ _ _ hf 17 ls H locs dX6_wrong_17 rfl hP hD hS
  · have hf := if_f c_5 hf
    refine lv_aload_n hx hb dX6_wrong_8 rfl (lv_at hl 0 rfl) ?_
    refine lv_iload_n hx hb dX6_wrong_9 rfl (lv_at hl 2 rfl) ?_
    obtain ⟨r10, hc10, hf⟩ := bd_some hf
    refine cV_I X hA hP hD hS hl.1 (c_X6_isPlace l E a_t x_t_signs w_t_pad x_t_places (.ref a_t_page) x_t_begins x_t_court x_t_allowed w_t_weight x_t_sights w_t_sight (.ref a_t_count) x_t_opens w_t_open w_t_behind w_t_outs (.ref a_t_pack) w_t_image w_t_isKept p2 r10 hc10) 1 k_738 mw_X6_isPlace hd_X6_isPlace ⟨Nat.le_of_ble_eq_true rfl, Nat.le_of_ble_eq_true rfl⟩ [0] [1, 2, 3] [3, 0, 1, 2] rfl rfl (wr := [1, 2, 3].filterMap (fun i => (wd_X6_wrong E a_t a_t_page a_t_pack a_t_count x_t_signs w_t_pad x_t_places x_t_begins x_t_court x_t_allowed w_t_weight x_t_sights w_t_sight x_t_opens w_t_open w_t_behind w_t_outs w_t_image w_t_isKept x_t_page x_t_pack x_t_count)[i]?)) rfl rfl rfl 6 0 rfl rfl rfl rfl rfl (Nat.le_of_ble_eq_true rfl) rfl (ws' := (wd_X6_wrong E a_t a_t_page a_t_pack a_t_count x_t_signs w_t_pad x_t_places x_t_begins x_t_court x_t_allowed w_t_weight x_t_sights w_t_sight x_t_opens w_t_open w_t_behind w_t_outs w_t_image w_t_isKept x_t_page x_t_pack x_t_count)) rfl ⟨Nat.le_of_ble_eq_true rfl, Nat.le_of_ble_eq_true rfl⟩ dX6_wrong_10 (fun H locs hP hD hS => ?_)
    refine lv_if_ne (tgt := 18) hx hb dX6_wrong_13 (by decide) (fun c_13 => ?_) (fun c_13 => ?_)
    · have hf := if_f c_13 hf
      refine lv_aload_n hx hb dX6_wrong_18 rfl (lv_at hl 0 rfl) ?_
      obtain ⟨r19, hc19, hf⟩ := bd_some hf
      refine cV_I X hA hP hD hS hl.1 (c_X6_isWhole l E a_t a_t_page x_t_signs w_t_pad x_t_places x_t_begins x_t_court x_t_allowed w_t_weight x_t_sights w_t_sight (.ref a_t_count) x_t_opens w_t_open w_t_behind w_t_outs (.ref a_t_pack) w_t_image w_t_isKept x_t_page r19 hc19) 0 k_749 mw_X6_isWhole hd_X6_isWhole ⟨Nat.le_of_ble_eq_true rfl, Nat.le_of_ble_eq_true rfl⟩ [0, 1] [2, 3] [2, 3, 0, 1] rfl rfl (wr := [2, 3].filterMap (fun i => (wd_X6_wrong E a_t a_t_page a_t_pack a_t_count x_t_signs w_t_pad x_t_places x_t_begins x_t_court x_t_allowed w_t_weight x_t_sights w_t_sight x_t_opens w_t_open w_t_behind w_t_outs w_t_image w_t_isKept x_t_page x_t_pack x_t_count)[i]?)) rfl rfl rfl 6 0 rfl rfl rfl rfl rfl (Nat.le_of_ble_eq_true rfl) rfl (ws' := (wd_X6_wrong E a_t a_t_page a_t_pack a_t_count x_t_signs w_t_pad x_t_places x_t_begins x_t_court x_t_allowed w_t_weight x_t_sights w_t_sight x_t_opens w_t_open w_t_behind w_t_outs w_t_image w_t_isKept x_t_page x_t_pack x_t_count)) rfl ⟨Nat.le_of_ble_eq_true rfl, Nat.le_of_ble_eq_true rfl⟩ dX6_wrong_19 (fun H locs hP hD hS => ?_)
      refine lv_if_ne (tgt := 28) hx hb dX6_wrong_22 (by decide) (fun c_22 => ?_) (fun c_22 => ?_)
      · have hf := if_f c_22 hf
        refine lv_iconst (v := (0 : Int32)) hx hb dX6_wrong_28 (by decide) ?_
        refine lv_istore_n (lv' := [(3, .int (0 : Int32)), (0, .ref a_t), (1, .int p1), (2, .int p2)]) hx hb dX6_wrong_29 rfl hl (by decide) rfl (fun ls hl => ?_)
        refine lv_iconst (v := (0 : Int32)) hx hb dX6_wrong_30 (by decide) ?_
        refine lv_istore (lv' := [(4, .int (0 : Int32)), (3, .int (0 : Int32)), (0, .ref a_t), (1, .int p1), (2, .int p2)]) hx hb dX6_wrong_31 hl (by decide) rfl (fun ls hl => ?_)
        exact L33 FU (0 : Int32) (0 : Int32) x_t_pack x_t_count hf H locs ls hP hD hS (lv_sub hl [2, 3, 4, 1, 0] rfl)
      · have hf := if_t c_22 hf
        refine lv_bipush (v := (-3 : Int32)) hx hb dX6_wrong_25 (by decide) ?_
        exact fin' _ _ _ hf 27 ls H locs dX6_wrong_27 rfl hP hD hS
    · have hf := if_t c_13 hf
      refine lv_iconst (v := (-1 : Int32)) hx hb dX6_wrong_16 (by decide) ?_
      exact fin' _ _ _ hf 17 ls H locs dX6_wrong_17 rfl hP hD hS
abbrev wd_X6_image (E : EN) (a_t : Nat) (a_t_image : Nat) (a_t_page : Nat) (a_t_weight : Nat) (a_t_isKept : Nat) (a_t_sight : Nat) (x_t_signs : Int32) (w_t_pad : Value) (x_t_places : Int32) (x_t_begins : Int32) (x_t_court : Int32) (x_t_allowed : Int32) (x_t_sights : Int32) (w_t_count : Value) (x_t_opens : Int32) (w_t_open : Value) (w_t_behind : Value) (w_t_outs : Value) (w_t_pack : Value) (x_t_image : Nat → Int32) (x_t_page : Nat → Int32) (x_t_weight : Nat → Int32) (x_t_isKept : Nat → Int32) (x_t_sight : Nat → Int32) : va_W := [(a_t, e_O 6 [.int x_t_signs, w_t_pad, .int x_t_places, .ref a_t_page, .int x_t_begins, .int x_t_court, .int x_t_allowed, .ref a_t_weight, .int x_t_sights, .ref a_t_sight, w_t_count, .int x_t_opens, w_t_open, w_t_behind, w_t_outs, w_t_pack, .ref a_t_image, .ref a_t_isKept]), (a_t_image, e_I E 136 x_t_image), (a_t_page, e_I E 40 x_t_page), (a_t_weight, e_I E 11 x_t_weight), (a_t_isKept, e_Z E 2 x_t_isKept), (a_t_sight, e_I E 12 x_t_sight)]
def f_X6_image_78 (p1 : Int32) (x_t_places : Int32) (x_t_begins : Int32) (x_t_court : Int32) (x_t_allowed : Int32) (x_t_sights : Int32) (x_t_sight : Nat → Int32)  : Nat → Int32 → Int32 → (Nat → Int32) → (Nat → Int32) → Option (Int32 × (Nat → Int32) × (Nat → Int32))
  | 0, _, _, _, _ => none
  | n_ + 1, v2, v3, m_t_image, m_t_isKept =>
    if (12 : Int32) ≤ v3 then
      ck (inB (v2 + (63 : Int32)) 136) (
      ck (inB (v2 + (64 : Int32)) 136) (
      ck (inB (v2 + (65 : Int32)) 136) (
      ck (inB (v2 + (66 : Int32)) 136) (
      ck (inB (v2 + (67 : Int32)) 136) (
      ck (inB p1 2) (
      some ((1 : Int32), (upd (upd (upd (upd (upd m_t_image (ix (v2 + (63 : Int32))) x_t_places) (ix (v2 + (64 : Int32))) x_t_begins) (ix (v2 + (65 : Int32))) x_t_court) (ix (v2 + (66 : Int32))) x_t_allowed) (ix (v2 + (67 : Int32))) x_t_sights), (upd m_t_isKept (ix p1) (vp_nar .boolean (1 : Int32))))))))))
    else
      ck (inB v3 12) (
      ck (inB ((v2 + (51 : Int32)) + v3) 136) (
      f_X6_image_78 p1 x_t_places x_t_begins x_t_court x_t_allowed x_t_sights x_t_sight n_ v2 (v3 + (1 : Int32)) (upd m_t_image (ix ((v2 + (51 : Int32)) + v3)) (x_t_sight (ix v3))) m_t_isKept))
def f_X6_image_47 (p1 : Int32) (x_t_places : Int32) (x_t_begins : Int32) (x_t_court : Int32) (x_t_allowed : Int32) (x_t_sights : Int32) (x_t_weight : Nat → Int32) (x_t_sight : Nat → Int32)  : Nat → Int32 → Int32 → (Nat → Int32) → (Nat → Int32) → Option (Int32 × (Nat → Int32) × (Nat → Int32))
  | 0, _, _, _, _ => none
  | n_ + 1, v2, v3, m_t_image, m_t_isKept =>
    if (11 : Int32) ≤ v3 then
      f_X6_image_78 p1 x_t_places x_t_begins x_t_court x_t_allowed x_t_sights x_t_sight FU v2 (0 : Int32) m_t_image m_t_isKept
    else
      ck (inB v3 11) (
      ck (inB ((v2 + (40 : Int32)) + v3) 136) (
      f_X6_image_47 p1 x_t_places x_t_begins x_t_court x_t_allowed x_t_sights x_t_weight x_t_sight n_ v2 (v3 + (1 : Int32)) (upd m_t_image (ix ((v2 + (40 : Int32)) + v3)) (x_t_weight (ix v3))) m_t_isKept))
def f_X6_image_19 (p1 : Int32) (x_t_places : Int32) (x_t_begins : Int32) (x_t_court : Int32) (x_t_allowed : Int32) (x_t_sights : Int32) (x_t_page : Nat → Int32) (x_t_weight : Nat → Int32) (x_t_sight : Nat → Int32)  : Nat → Int32 → Int32 → (Nat → Int32) → (Nat → Int32) → Option (Int32 × (Nat → Int32) × (Nat → Int32))
  | 0, _, _, _, _ => none
  | n_ + 1, v2, v3, m_t_image, m_t_isKept =>
    if (40 : Int32) ≤ v3 then
      f_X6_image_47 p1 x_t_places x_t_begins x_t_court x_t_allowed x_t_sights x_t_weight x_t_sight FU v2 (0 : Int32) m_t_image m_t_isKept
    else
      ck (inB v3 40) (
      ck (inB (v2 + v3) 136) (
      f_X6_image_19 p1 x_t_places x_t_begins x_t_court x_t_allowed x_t_sights x_t_page x_t_weight x_t_sight n_ v2 (v3 + (1 : Int32)) (upd m_t_image (ix (v2 + v3)) (x_t_page (ix v3))) m_t_isKept))
def f_X6_image (p1 : Int32) (x_t_places : Int32) (x_t_begins : Int32) (x_t_court : Int32) (x_t_allowed : Int32) (x_t_sights : Int32) (x_t_image : Nat → Int32) (x_t_page : Nat → Int32) (x_t_weight : Nat → Int32) (x_t_isKept : Nat → Int32) (x_t_sight : Nat → Int32) : Option (Int32 × (Nat → Int32) × (Nat → Int32)) :=
  Option.bind (f_X6_in p1 (0 : Int32) (1 : Int32)) (fun r3 =>
  if r3 = 0 then
    some ((-2 : Int32), x_t_image, x_t_isKept)
  else
    f_X6_image_19 p1 x_t_places x_t_begins x_t_court x_t_allowed x_t_sights x_t_page x_t_weight x_t_sight FU ((68 : Int32) * p1) (0 : Int32) x_t_image x_t_isKept)
set_option maxHeartbeats 4000000 in
set_option maxRecDepth 100000 in
theorem c_X6_image (l : Launch) (E : EN) (a_t a_t_image a_t_page a_t_weight a_t_isKept a_t_sight : Nat) (x_t_signs : Int32) (w_t_pad : Value) (x_t_places : Int32) (x_t_begins : Int32) (x_t_court : Int32) (x_t_allowed : Int32) (x_t_sights : Int32) (w_t_count : Value) (x_t_opens : Int32) (w_t_open : Value) (w_t_behind : Value) (w_t_outs : Value) (w_t_pack : Value) (x_t_image : Nat → Int32) (x_t_page : Nat → Int32) (x_t_weight : Nat → Int32) (x_t_isKept : Nat → Int32) (x_t_sight : Nat → Int32) (p1 : Int32) (res : Int32 × (Nat → Int32) × (Nat → Int32)) (hf : f_X6_image p1 x_t_places x_t_begins x_t_court x_t_allowed x_t_sights x_t_image x_t_page x_t_weight x_t_isKept x_t_sight = some res) : CtI l yX6_image cX6_image 4 .int 1 22 E [.ref a_t, .int p1] (wd_X6_image E a_t a_t_image a_t_page a_t_weight a_t_isKept a_t_sight x_t_signs w_t_pad x_t_places x_t_begins x_t_court x_t_allowed x_t_sights w_t_count x_t_opens w_t_open w_t_behind w_t_outs w_t_pack x_t_image x_t_page x_t_weight x_t_isKept x_t_sight) (wd_X6_image E a_t a_t_image a_t_page a_t_weight a_t_isKept a_t_sight x_t_signs w_t_pad x_t_places x_t_begins x_t_court x_t_allowed x_t_sights w_t_count x_t_opens w_t_open w_t_behind w_t_outs w_t_pack res.2.1 x_t_page x_t_weight res.2.2 x_t_sight) res.1 := by
  refine CtI.of RX6 (by decide) rfl (Nat.le_of_ble_eq_true rfl) ?_
  intro p e s m below meth c A Q ls X hA hP hD hl fin
  have hx := X.1
  have hb := X.2.1
  have hl : lv_has ls 4 [(0, .ref a_t), (1, .int p1)] := hl
  have fin' : ∀ (fr0 : Int32) (fr1 : (Nat → Int32)) (fr2 : (Nat → Int32)), some (fr0, fr1, fr2) = some res → ∀ (pc : Nat) (ls : Array Slot) (H : Heap) (locs : List Loc), decode cX6_image pc = .ok (.ireturn, 1) → narrow .int (.int fr0) = .int fr0 → va_P E.1 vwCl (wd_X6_image E a_t a_t_image a_t_page a_t_weight a_t_isKept a_t_sight x_t_signs w_t_pad x_t_places x_t_begins x_t_court x_t_allowed x_t_sights w_t_count x_t_opens w_t_open w_t_behind w_t_outs w_t_pack fr1 x_t_page x_t_weight fr2 x_t_sight) H → va_D A (wd_X6_image E a_t a_t_image a_t_page a_t_weight a_t_isKept a_t_sight x_t_signs w_t_pad x_t_places x_t_begins x_t_court x_t_allowed x_t_sights w_t_count x_t_opens w_t_open w_t_behind w_t_outs w_t_pack fr1 x_t_page x_t_weight fr2 x_t_sight) → va_S A s.heap H locs → W p l e (rmm 1 22) s m ([.ref a_t, .int p1] : List Value).toArray below meth c H locs 0 0 Q (F0 m pc ls [.int fr0]) := by
    intro fr0 fr1 fr2 he
    cases he
    exact fin
  have L78 : ∀ (n78 : Nat) (v2 : Int32) (v3 : Int32) (m_t_image : Nat → Int32) (m_t_isKept : Nat → Int32), f_X6_image_78 p1 x_t_places x_t_begins x_t_court x_t_allowed x_t_sights x_t_sight n78 v2 v3 m_t_image m_t_isKept = some res → ∀ (H : Heap) (locs : List Loc) (ls : Array Slot), va_P E.1 vwCl (wd_X6_image E a_t a_t_image a_t_page a_t_weight a_t_isKept a_t_sight x_t_signs w_t_pad x_t_places x_t_begins x_t_court x_t_allowed x_t_sights w_t_count x_t_opens w_t_open w_t_behind w_t_outs w_t_pack m_t_image x_t_page x_t_weight m_t_isKept x_t_sight) H → va_D A (wd_X6_image E a_t a_t_image a_t_page a_t_weight a_t_isKept a_t_sight x_t_signs w_t_pad x_t_places x_t_begins x_t_court x_t_allowed x_t_sights w_t_count x_t_opens w_t_open w_t_behind w_t_outs w_t_pack m_t_image x_t_page x_t_weight m_t_isKept x_t_sight) → va_S A s.heap H locs → lv_has ls 4 [(0, .ref a_t), (1, .int p1), (2, .int v2), (3, .int v3)] → W p l e (rmm 1 22) s m ([.ref a_t, .int p1] : List Value).toArray below meth c H locs 0 0 Q (F0 m 78 ls []) := by
    intro n78
    induction n78 with
    | zero => intro v2 v3 m_t_image m_t_isKept hf; rw [f_X6_image_78] at hf; cases hf
    | succ n78 ih78 =>
      intro v2 v3 m_t_image m_t_isKept hf H locs ls hP hD hS hl
      rw [f_X6_image_78] at hf
      refine lv_iload_n hx hb dX6_image_78 rfl (lv_at hl 3 rfl) ?_
      refine lv_bipush (v := (12 : Int32)) hx hb dX6_image_79 (by decide) ?_
      refine lv_icmp_ge (tgt := 107) hx hb dX6_image_81 (by decide) (fun c_81 => ?_) (fun c_81 => ?_)
      · have hf := if_t c_81 hf
        refine lv_aload_n hx hb dX6_image_107 rfl (lv_at hl 0 rfl) ?_
        refine gf_X6_50 X hP 0 rfl rfl dX6_image_108 ?_
        refine lv_iload_n hx hb dX6_image_111 rfl (lv_at hl 2 rfl) ?_
        refine lv_bipush (v := (63 : Int32)) hx hb dX6_image_112 (by decide) ?_
        refine lv_iadd hx hb dX6_image_114 ?_
        refine lv_aload_n hx hb dX6_image_115 rfl (lv_at hl 0 rfl) ?_
        refine gf_X6_13 X hP 0 rfl rfl dX6_image_116 ?_
        obtain ⟨hi119, hf⟩ := ck_some hf
        refine r_iast X hP hD hS 1 rfl hi119 (ws' := (wd_X6_image E a_t a_t_image a_t_page a_t_weight a_t_isKept a_t_sight x_t_signs w_t_pad x_t_places x_t_begins x_t_court x_t_allowed x_t_sights w_t_count x_t_opens w_t_open w_t_behind w_t_outs w_t_pack (upd m_t_image (ix (v2 + (63 : Int32))) x_t_places) x_t_page x_t_weight m_t_isKept x_t_sight)) rfl dX6_image_119 (fun H locs hP hD hS => ?_)
        refine lv_aload_n hx hb dX6_image_120 rfl (lv_at hl 0 rfl) ?_
        refine gf_X6_50 X hP 0 rfl rfl dX6_image_121 ?_
        refine lv_iload_n hx hb dX6_image_124 rfl (lv_at hl 2 rfl) ?_
        refine lv_bipush (v := (64 : Int32)) hx hb dX6_image_125 (by decide) ?_
        refine lv_iadd hx hb dX6_image_127 ?_
        refine lv_aload_n hx hb dX6_image_128 rfl (lv_at hl 0 rfl) ?_
        refine gf_X6_20 X hP 0 rfl rfl dX6_image_129 ?_
        obtain ⟨hi132, hf⟩ := ck_some hf
        refine r_iast X hP hD hS 1 rfl hi132 (ws' := (wd_X6_image E a_t a_t_image a_t_page a_t_weight a_t_isKept a_t_sight x_t_signs w_t_pad x_t_places x_t_begins x_t_court x_t_allowed x_t_sights w_t_count x_t_opens w_t_open w_t_behind w_t_outs w_t_pack (upd (upd m_t_image (ix (v2 + (63 : Int32))) x_t_places) (ix (v2 + (64 : Int32))) x_t_begins) x_t_page x_t_weight m_t_isKept x_t_sight)) rfl dX6_image_132 (fun H locs hP hD hS => ?_)
        refine lv_aload_n hx hb dX6_image_133 rfl (lv_at hl 0 rfl) ?_
        refine gf_X6_50 X hP 0 rfl rfl dX6_image_134 ?_
        refine lv_iload_n hx hb dX6_image_137 rfl (lv_at hl 2 rfl) ?_
        refine lv_bipush (v := (65 : Int32)) hx hb dX6_image_138 (by decide) ?_
        refine lv_iadd hx hb dX6_image_140 ?_
        refine lv_aload_n hx hb dX6_image_141 rfl (lv_at hl 0 rfl) ?_
        refine gf_X6_23 X hP 0 rfl rfl dX6_image_142 ?_
        obtain ⟨hi145, hf⟩ := ck_some hf
        refine r_iast X hP hD hS 1 rfl hi145 (ws' := (wd_X6_image E a_t a_t_image a_t_page a_t_weight a_t_isKept a_t_sight x_t_signs w_t_pad x_t_places x_t_begins x_t_court x_t_allowed x_t_sights w_t_count x_t_opens w_t_open w_t_behind w_t_outs w_t_pack (upd (upd (upd m_t_image (ix (v2 + (63 : Int32))) x_t_places) (ix (v2 + (64 : Int32))) x_t_begins) (ix (v2 + (65 : Int32))) x_t_court) x_t_page x_t_weight m_t_isKept x_t_sight)) rfl dX6_image_145 (fun H locs hP hD hS => ?_)
        refine lv_aload_n hx hb dX6_image_146 rfl (lv_at hl 0 rfl) ?_
        refine gf_X6_50 X hP 0 rfl rfl dX6_image_147 ?_
        refine lv_iload_n hx hb dX6_image_150 rfl (lv_at hl 2 rfl) ?_
        refine lv_bipush (v := (66 : Int32)) hx hb dX6_image_151 (by decide) ?_
        refine lv_iadd hx hb dX6_image_153 ?_
        refine lv_aload_n hx hb dX6_image_154 rfl (lv_at hl 0 rfl) ?_
        refine gf_X6_26 X hP 0 rfl rfl dX6_image_155 ?_
        obtain ⟨hi158, hf⟩ := ck_some hf
        refine r_iast X hP hD hS 1 rfl hi158 (ws' := (wd_X6_image E a_t a_t_image a_t_page a_t_weight a_t_isKept a_t_sight x_t_signs w_t_pad x_t_places x_t_begins x_t_court x_t_allowed x_t_sights w_t_count x_t_opens w_t_open w_t_behind w_t_outs w_t_pack (upd (upd (upd (upd m_t_image (ix (v2 + (63 : Int32))) x_t_places) (ix (v2 + (64 : Int32))) x_t_begins) (ix (v2 + (65 : Int32))) x_t_court) (ix (v2 + (66 : Int32))) x_t_allowed) x_t_page x_t_weight m_t_isKept x_t_sight)) rfl dX6_image_158 (fun H locs hP hD hS => ?_)
        refine lv_aload_n hx hb dX6_image_159 rfl (lv_at hl 0 rfl) ?_
        refine gf_X6_50 X hP 0 rfl rfl dX6_image_160 ?_
        refine lv_iload_n hx hb dX6_image_163 rfl (lv_at hl 2 rfl) ?_
        refine lv_bipush (v := (67 : Int32)) hx hb dX6_image_164 (by decide) ?_
        refine lv_iadd hx hb dX6_image_166 ?_
        refine lv_aload_n hx hb dX6_image_167 rfl (lv_at hl 0 rfl) ?_
        refine gf_X6_72 X hP 0 rfl rfl dX6_image_168 ?_
        obtain ⟨hi171, hf⟩ := ck_some hf
        refine r_iast X hP hD hS 1 rfl hi171 (ws' := (wd_X6_image E a_t a_t_image a_t_page a_t_weight a_t_isKept a_t_sight x_t_signs w_t_pad x_t_places x_t_begins x_t_court x_t_allowed x_t_sights w_t_count x_t_opens w_t_open w_t_behind w_t_outs w_t_pack (upd (upd (upd (upd (upd m_t_image (ix (v2 + (63 : Int32))) x_t_places) (ix (v2 + (64 : Int32))) x_t_begins) (ix (v2 + (65 : Int32))) x_t_court) (ix (v2 + (66 : Int32))) x_t_allowed) (ix (v2 + (67 : Int32))) x_t_sights) x_t_page x_t_weight m_t_isKept x_t_sight)) rfl dX6_image_171 (fun H locs hP hD hS => ?_)
        refine lv_aload_n hx hb dX6_image_172 rfl (lv_at hl 0 rfl) ?_
        refine gf_X6_53 X hP 0 rfl rfl dX6_image_173 ?_
        refine lv_iload_n hx hb dX6_image_176 rfl (lv_at hl 1 rfl) ?_
        refine lv_iconst (v := (1 : Int32)) hx hb dX6_image_177 (by decide) ?_
        obtain ⟨hi178, hf⟩ := ck_some hf
        refine r_zast X hP hD hS 4 rfl hi178 (ws' := (wd_X6_image E a_t a_t_image a_t_page a_t_weight a_t_isKept a_t_sight x_t_signs w_t_pad x_t_places x_t_begins x_t_court x_t_allowed x_t_sights w_t_count x_t_opens w_t_open w_t_behind w_t_outs w_t_pack (upd (upd (upd (upd (upd m_t_image (ix (v2 + (63 : Int32))) x_t_places) (ix (v2 + (64 : Int32))) x_t_begins) (ix (v2 + (65 : Int32))) x_t_court) (ix (v2 + (66 : Int32))) x_t_allowed) (ix (v2 + (67 : Int32))) x_t_sights) x_t_page x_t_weight (upd m_t_isKept (ix p1) (vp_nar .boolean (1 : Int32))) x_t_sight)) rfl dX6_image_178 (fun H locs hP hD hS => ?_)
        refine lv_iconst (v := (1 : Int32)) hx hb dX6_image_179 (by decide) ?_
        exact fin' _ _ _ hf 180 ls H locs dX6_image_180 rfl hP hD hS
      · have hf := if_f c_81 hf
        refine lv_aload_n hx hb dX6_image_84 rfl (lv_at hl 0 rfl) ?_
        refine gf_X6_50 X hP 0 rfl rfl dX6_image_85 ?_
        refine lv_iload_n hx hb dX6_image_88 rfl (lv_at hl 2 rfl) ?_
        refine lv_bipush (v := (51 : Int32)) hx hb dX6_image_89 (by decide) ?_
        refine lv_iadd hx hb dX6_image_91 ?_
        refine lv_iload_n hx hb dX6_image_92 rfl (lv_at hl 3 rfl) ?_
        refine lv_iadd hx hb dX6_image_93 ?_
        refine lv_aload_n hx hb dX6_image_94 rfl (lv_at hl 0 rfl) ?_
        refine gf_X6_32 X hP 0 rfl rfl dX6_image_95 ?_
        refine lv_iload_n hx hb dX6_image_98 rfl (lv_at hl 3 rfl) ?_
        obtain ⟨hi99, hf⟩ := ck_some hf
        refine r_iald X hP 5 rfl hi99 dX6_image_99 ?_
        obtain ⟨hi100, hf⟩ := ck_some hf
        refine r_iast X hP hD hS 1 rfl hi100 (ws' := (wd_X6_image E a_t a_t_image a_t_page a_t_weight a_t_isKept a_t_sight x_t_signs w_t_pad x_t_places x_t_begins x_t_court x_t_allowed x_t_sights w_t_count x_t_opens w_t_open w_t_behind w_t_outs w_t_pack (upd m_t_image (ix ((v2 + (51 : Int32)) + v3)) (x_t_sight (ix v3))) x_t_page x_t_weight m_t_isKept x_t_sight)) rfl dX6_image_100 (fun H locs hP hD hS => ?_)
        refine lv_iinc (v := (v3 + (1 : Int32))) (lv' := [(3, .int (v3 + (1 : Int32))), (0, .ref a_t), (1, .int p1), (2, .int v2)]) hx hb dX6_image_101 hl (k := 3) rfl rfl (by decide) rfl (fun ls hl => ?_)
        refine lv_goto (tgt := 78) hx hb dX6_image_104 (by decide) ?_
        exact ih78 v2 (v3 + (1 : Int32)) (upd m_t_image (ix ((v2 + (51 : Int32)) + v3)) (x_t_sight (ix v3))) m_t_isKept hf H locs ls hP hD hS (lv_sub hl [1, 2, 3, 0] rfl)
  have L47 : ∀ (n47 : Nat) (v2 : Int32) (v3 : Int32) (m_t_image : Nat → Int32) (m_t_isKept : Nat → Int32), f_X6_image_47 p1 x_t_places x_t_begins x_t_court x_t_allowed x_t_sights x_t_weight x_t_sight n47 v2 v3 m_t_image m_t_isKept = some res → ∀ (H : Heap) (locs : List Loc) (ls : Array Slot), va_P E.1 vwCl (wd_X6_image E a_t a_t_image a_t_page a_t_weight a_t_isKept a_t_sight x_t_signs w_t_pad x_t_places x_t_begins x_t_court x_t_allowed x_t_sights w_t_count x_t_opens w_t_open w_t_behind w_t_outs w_t_pack m_t_image x_t_page x_t_weight m_t_isKept x_t_sight) H → va_D A (wd_X6_image E a_t a_t_image a_t_page a_t_weight a_t_isKept a_t_sight x_t_signs w_t_pad x_t_places x_t_begins x_t_court x_t_allowed x_t_sights w_t_count x_t_opens w_t_open w_t_behind w_t_outs w_t_pack m_t_image x_t_page x_t_weight m_t_isKept x_t_sight) → va_S A s.heap H locs → lv_has ls 4 [(0, .ref a_t), (1, .int p1), (2, .int v2), (3, .int v3)] → W p l e (rmm 1 22) s m ([.ref a_t, .int p1] : List Value).toArray below meth c H locs 0 0 Q (F0 m 47 ls []) := by
    intro n47
    induction n47 with
    | zero => intro v2 v3 m_t_image m_t_isKept hf; rw [f_X6_image_47] at hf; cases hf
    | succ n47 ih47 =>
      intro v2 v3 m_t_image m_t_isKept hf H locs ls hP hD hS hl
      rw [f_X6_image_47] at hf
      refine lv_iload_n hx hb dX6_image_47 rfl (lv_at hl 3 rfl) ?_
      refine lv_bipush (v := (11 : Int32)) hx hb dX6_image_48 (by decide) ?_
      refine lv_icmp_ge (tgt := 76) hx hb dX6_image_50 (by decide) (fun c_50 => ?_) (fun c_50 => ?_)
      · have hf := if_t c_50 hf
        refine lv_iconst (v := (0 : Int32)) hx hb dX6_image_76 (by decide) ?_
        refine lv_istore_n (lv' := [(3, .int (0 : Int32)), (0, .ref a_t), (1, .int p1), (2, .int v2)]) hx hb dX6_image_77 rfl hl (by decide) rfl (fun ls hl => ?_)
        exact L78 FU v2 (0 : Int32) m_t_image m_t_isKept hf H locs ls hP hD hS (lv_sub hl [1, 2, 3, 0] rfl)
      · have hf := if_f c_50 hf
        refine lv_aload_n hx hb dX6_image_53 rfl (lv_at hl 0 rfl) ?_
        refine gf_X6_50 X hP 0 rfl rfl dX6_image_54 ?_
        refine lv_iload_n hx hb dX6_image_57 rfl (lv_at hl 2 rfl) ?_
        refine lv_bipush (v := (40 : Int32)) hx hb dX6_image_58 (by decide) ?_
        refine lv_iadd hx hb dX6_image_60 ?_
        refine lv_iload_n hx hb dX6_image_61 rfl (lv_at hl 3 rfl) ?_
        refine lv_iadd hx hb dX6_image_62 ?_
        refine lv_aload_n hx hb dX6_image_63 rfl (lv_at hl 0 rfl) ?_
        refine gf_X6_29 X hP 0 rfl rfl dX6_image_64 ?_
        refine lv_iload_n hx hb dX6_image_67 rfl (lv_at hl 3 rfl) ?_
        obtain ⟨hi68, hf⟩ := ck_some hf
        refine r_iald X hP 3 rfl hi68 dX6_image_68 ?_
        obtain ⟨hi69, hf⟩ := ck_some hf
        refine r_iast X hP hD hS 1 rfl hi69 (ws' := (wd_X6_image E a_t a_t_image a_t_page a_t_weight a_t_isKept a_t_sight x_t_signs w_t_pad x_t_places x_t_begins x_t_court x_t_allowed x_t_sights w_t_count x_t_opens w_t_open w_t_behind w_t_outs w_t_pack (upd m_t_image (ix ((v2 + (40 : Int32)) + v3)) (x_t_weight (ix v3))) x_t_page x_t_weight m_t_isKept x_t_sight)) rfl dX6_image_69 (fun H locs hP hD hS => ?_)
        refine lv_iinc (v := (v3 + (1 : Int32))) (lv' := [(3, .int (v3 + (1 : Int32))), (0, .ref a_t), (1, .int p1), (2, .int v2)]) hx hb dX6_image_70 hl (k := 3) rfl rfl (by decide) rfl (fun ls hl => ?_)
        refine lv_goto (tgt := 47) hx hb dX6_image_73 (by decide) ?_
        exact ih47 v2 (v3 + (1 : Int32)) (upd m_t_image (ix ((v2 + (40 : Int32)) + v3)) (x_t_weight (ix v3))) m_t_isKept hf H locs ls hP hD hS (lv_sub hl [1, 2, 3, 0] rfl)
  have L19 : ∀ (n19 : Nat) (v2 : Int32) (v3 : Int32) (m_t_image : Nat → Int32) (m_t_isKept : Nat → Int32), f_X6_image_19 p1 x_t_places x_t_begins x_t_court x_t_allowed x_t_sights x_t_page x_t_weight x_t_sight n19 v2 v3 m_t_image m_t_isKept = some res → ∀ (H : Heap) (locs : List Loc) (ls : Array Slot), va_P E.1 vwCl (wd_X6_image E a_t a_t_image a_t_page a_t_weight a_t_isKept a_t_sight x_t_signs w_t_pad x_t_places x_t_begins x_t_court x_t_allowed x_t_sights w_t_count x_t_opens w_t_open w_t_behind w_t_outs w_t_pack m_t_image x_t_page x_t_weight m_t_isKept x_t_sight) H → va_D A (wd_X6_image E a_t a_t_image a_t_page a_t_weight a_t_isKept a_t_sight x_t_signs w_t_pad x_t_places x_t_begins x_t_court x_t_allowed x_t_sights w_t_count x_t_opens w_t_open w_t_behind w_t_outs w_t_pack m_t_image x_t_page x_t_weight m_t_isKept x_t_sight) → va_S A s.heap H locs → lv_has ls 4 [(0, .ref a_t), (1, .int p1), (2, .int v2), (3, .int v3)] → W p l e (rmm 1 22) s m ([.ref a_t, .int p1] : List Value).toArray below meth c H locs 0 0 Q (F0 m 19 ls []) := by
    intro n19
    induction n19 with
    | zero => intro v2 v3 m_t_image m_t_isKept hf; rw [f_X6_image_19] at hf; cases hf
    | succ n19 ih19 =>
      intro v2 v3 m_t_image m_t_isKept hf H locs ls hP hD hS hl
      rw [f_X6_image_19] at hf
      refine lv_iload_n hx hb dX6_image_19 rfl (lv_at hl 3 rfl) ?_
      refine lv_bipush (v := (40 : Int32)) hx hb dX6_image_20 (by decide) ?_
      refine lv_icmp_ge (tgt := 45) hx hb dX6_image_22 (by decide) (fun c_22 => ?_) (fun c_22 => ?_)
      · have hf := if_t c_22 hf
        refine lv_iconst (v := (0 : Int32)) hx hb dX6_image_45 (by decide) ?_
        refine lv_istore_n (lv' := [(3, .int (0 : Int32)), (0, .ref a_t), (1, .int p1), (2, .int v2)]) hx hb dX6_image_46 rfl hl (by decide) rfl (fun ls hl => ?_)
        exact L47 FU v2 (0 : Int32) m_t_image m_t_isKept hf H locs ls hP hD hS (lv_sub hl [1, 2, 3, 0] rfl)
      · have hf := if_f c_22 hf
        refine lv_aload_n hx hb dX6_image_25 rfl (lv_at hl 0 rfl) ?_
        refine gf_X6_50 X hP 0 rfl rfl dX6_image_26 ?_
        refine lv_iload_n hx hb dX6_image_29 rfl (lv_at hl 2 rfl) ?_
        refine lv_iload_n hx hb dX6_image_30 rfl (lv_at hl 3 rfl) ?_
        refine lv_iadd hx hb dX6_image_31 ?_
        refine lv_aload_n hx hb dX6_image_32 rfl (lv_at hl 0 rfl) ?_
        refine gf_X6_17 X hP 0 rfl rfl dX6_image_33 ?_
        refine lv_iload_n hx hb dX6_image_36 rfl (lv_at hl 3 rfl) ?_
        obtain ⟨hi37, hf⟩ := ck_some hf
        refine r_iald X hP 2 rfl hi37 dX6_image_37 ?_
        obtain ⟨hi38, hf⟩ := ck_some hf
        refine r_iast X hP hD hS 1 rfl hi38 (ws' := (wd_X6_image E a_t a_t_image a_t_page a_t_weight a_t_isKept a_t_sight x_t_signs w_t_pad x_t_places x_t_begins x_t_court x_t_allowed x_t_sights w_t_count x_t_opens w_t_open w_t_behind w_t_outs w_t_pack (upd m_t_image (ix (v2 + v3)) (x_t_page (ix v3))) x_t_page x_t_weight m_t_isKept x_t_sight)) rfl dX6_image_38 (fun H locs hP hD hS => ?_)
        refine lv_iinc (v := (v3 + (1 : Int32))) (lv' := [(3, .int (v3 + (1 : Int32))), (0, .ref a_t), (1, .int p1), (2, .int v2)]) hx hb dX6_image_39 hl (k := 3) rfl rfl (by decide) rfl (fun ls hl => ?_)
        refine lv_goto (tgt := 19) hx hb dX6_image_42 (by decide) ?_
        exact ih19 v2 (v3 + (1 : Int32)) (upd m_t_image (ix (v2 + v3)) (x_t_page (ix v3))) m_t_isKept hf H locs ls hP hD hS (lv_sub hl [1, 2, 3, 0] rfl)
  have hS : va_S A s.heap s.heap [] := va_S.rf
  obtain ⟨H, hH9⟩ : ∃ z, z = s.heap := ⟨_, rfl⟩
  obtain ⟨locs, hL9⟩ : ∃ z : List Loc, z = [] := ⟨_, rfl⟩
  rw [← hL9]
  rw [← hL9] at hS
  have hP : va_P E.1 vwCl (wd_X6_image E a_t a_t_image a_t_page a_t_weight a_t_isKept a_t_sight x_t_signs w_t_pad x_t_places x_t_begins x_t_court x_t_allowed x_t_sights w_t_count x_t_opens w_t_open w_t_behind w_t_outs w_t_pack x_t_image x_t_page x_t_weight x_t_isKept x_t_sight) H := by rw [hH9]; exact hP
  have hS : va_S A s.heap H locs := by rw [hH9]; exact hS
  suffices hgoal : W p l e (rmm 1 22) s m ([.ref a_t, .int p1] : List Value).toArray below meth c H locs 0 0 Q (F0 m 0 ls []) by rw [hH9] at hgoal; exact hgoal
  rw [f_X6_image] at hf
  refine lv_iload_n hx hb dX6_image_0 rfl (lv_at hl 1 rfl) ?_
  refine lv_iconst (v := (0 : Int32)) hx hb dX6_image_1 (by decide) ?_
  refine lv_iconst (v := (1 : Int32)) hx hb dX6_image_2 (by decide) ?_
  obtain ⟨r3, hc3, hf⟩ := bd_some hf
  refine cS_I X hA hP hD hS hl.1 (c_X6_in l E p1 (0 : Int32) (1 : Int32) r3 hc3) 3 k_692 mw_X6_in hd_X6_in ⟨Nat.le_of_ble_eq_true rfl, Nat.le_of_ble_eq_true rfl⟩ [] [0, 1, 2, 3, 4, 5] [0, 1, 2, 3, 4, 5] rfl rfl (wr := [0, 1, 2, 3, 4, 5].filterMap (fun i => (wd_X6_image E a_t a_t_image a_t_page a_t_weight a_t_isKept a_t_sight x_t_signs w_t_pad x_t_places x_t_begins x_t_court x_t_allowed x_t_sights w_t_count x_t_opens w_t_open w_t_behind w_t_outs w_t_pack x_t_image x_t_page x_t_weight x_t_isKept x_t_sight)[i]?)) rfl rfl rfl rfl rfl (Nat.le_of_ble_eq_true rfl) rfl (ws' := (wd_X6_image E a_t a_t_image a_t_page a_t_weight a_t_isKept a_t_sight x_t_signs w_t_pad x_t_places x_t_begins x_t_court x_t_allowed x_t_sights w_t_count x_t_opens w_t_open w_t_behind w_t_outs w_t_pack x_t_image x_t_page x_t_weight x_t_isKept x_t_sight)) rfl ⟨Nat.le_of_ble_eq_true rfl, Nat.le_of_ble_eq_true rfl⟩ dX6_image_3 (fun H locs hP hD hS => ?_)
  refine lv_if_ne (tgt := 12) hx hb dX6_image_6 (by decide) (fun c_6 => ?_) (fun c_6 => ?_)
  · have hf := if_f c_6 hf
    refine lv_bipush (v := (68 : Int32)) hx hb dX6_image_12 (by decide) ?_
    refine lv_iload_n hx hb dX6_image_14 rfl (lv_at hl 1 rfl) ?_
    refine lv_imul hx hb dX6_image_15 ?_
    refine lv_istore_n (lv' := [(2, .int ((68 : Int32) * p1)), (0, .ref a_t), (1, .int p1)]) hx hb dX6_image_16 rfl hl (by decide) rfl (fun ls hl => ?_)
    refine lv_iconst (v := (0 : Int32)) hx hb dX6_image_17 (by decide) ?_
    refine lv_istore_n (lv' := [(3, .int (0 : Int32)), (2, .int ((68 : Int32) * p1)), (0, .ref a_t), (1, .int p1)]) hx hb dX6_image_18 rfl hl (by decide) rfl (fun ls hl => ?_)
    exact L19 FU ((68 : Int32) * p1) (0 : Int32) x_t_image x_t_isKept hf H locs ls hP hD hS (lv_sub hl [2, 3, 1, 0] rfl)
  · have hf := if_t c_6 hf
    refine lv_bipush (v := (-2 : Int32)) hx hb dX6_image_9 (by decide) ?_
    exact fin' _ _ _ hf 11 ls H locs dX6_image_11 rfl hP hD hS
abbrev wd_X6_restore (E : EN) (a_t : Nat) (a_t_isKept : Nat) (a_t_page : Nat) (a_t_image : Nat) (a_t_weight : Nat) (a_t_sight : Nat) (x_t_signs : Int32) (w_t_pad : Value) (x_t_places : Int32) (x_t_begins : Int32) (x_t_court : Int32) (x_t_allowed : Int32) (x_t_sights : Int32) (w_t_count : Value) (x_t_opens : Int32) (w_t_open : Value) (w_t_behind : Value) (w_t_outs : Value) (w_t_pack : Value) (x_t_isKept : Nat → Int32) (x_t_page : Nat → Int32) (x_t_image : Nat → Int32) (x_t_weight : Nat → Int32) (x_t_sight : Nat → Int32) : va_W := [(a_t, e_O 6 [.int x_t_signs, w_t_pad, .int x_t_places, .ref a_t_page, .int x_t_begins, .int x_t_court, .int x_t_allowed, .ref a_t_weight, .int x_t_sights, .ref a_t_sight, w_t_count, .int x_t_opens, w_t_open, w_t_behind, w_t_outs, w_t_pack, .ref a_t_image, .ref a_t_isKept]), (a_t_isKept, e_Z E 2 x_t_isKept), (a_t_page, e_I E 40 x_t_page), (a_t_image, e_I E 136 x_t_image), (a_t_weight, e_I E 11 x_t_weight), (a_t_sight, e_I E 12 x_t_sight)]
def f_X6_restore_90 (x_t_image : Nat → Int32)  : Nat → Int32 → Int32 → Int32 → Int32 → Int32 → Int32 → Int32 → (Nat → Int32) → (Nat → Int32) → (Nat → Int32) → Option (Int32 × Int32 × Int32 × Int32 × Int32 × Int32 × (Nat → Int32) × (Nat → Int32) × (Nat → Int32))
  | 0, _, _, _, _, _, _, _, _, _, _ => none
  | n_ + 1, v2, v3, m_t_places, m_t_begins, m_t_court, m_t_allowed, m_t_sights, m_t_page, m_t_weight, m_t_sight =>
    if (12 : Int32) ≤ v3 then
      ck (inB (v2 + (63 : Int32)) 136) (
      ck (inB (v2 + (64 : Int32)) 136) (
      ck (inB (v2 + (65 : Int32)) 136) (
      ck (inB (v2 + (66 : Int32)) 136) (
      ck (inB (v2 + (67 : Int32)) 136) (
      some ((1 : Int32), (x_t_image (ix (v2 + (63 : Int32)))), (x_t_image (ix (v2 + (64 : Int32)))), (x_t_image (ix (v2 + (65 : Int32)))), (x_t_image (ix (v2 + (66 : Int32)))), (x_t_image (ix (v2 + (67 : Int32)))), m_t_page, m_t_weight, m_t_sight))))))
    else
      ck (inB ((v2 + (51 : Int32)) + v3) 136) (
      ck (inB v3 12) (
      f_X6_restore_90 x_t_image n_ v2 (v3 + (1 : Int32)) m_t_places m_t_begins m_t_court m_t_allowed m_t_sights m_t_page m_t_weight (upd m_t_sight (ix v3) (x_t_image (ix ((v2 + (51 : Int32)) + v3))))))
def f_X6_restore_59 (x_t_image : Nat → Int32)  : Nat → Int32 → Int32 → Int32 → Int32 → Int32 → Int32 → Int32 → (Nat → Int32) → (Nat → Int32) → (Nat → Int32) → Option (Int32 × Int32 × Int32 × Int32 × Int32 × Int32 × (Nat → Int32) × (Nat → Int32) × (Nat → Int32))
  | 0, _, _, _, _, _, _, _, _, _, _ => none
  | n_ + 1, v2, v3, m_t_places, m_t_begins, m_t_court, m_t_allowed, m_t_sights, m_t_page, m_t_weight, m_t_sight =>
    if (11 : Int32) ≤ v3 then
      f_X6_restore_90 x_t_image FU v2 (0 : Int32) m_t_places m_t_begins m_t_court m_t_allowed m_t_sights m_t_page m_t_weight m_t_sight
    else
      ck (inB ((v2 + (40 : Int32)) + v3) 136) (
      ck (inB v3 11) (
      f_X6_restore_59 x_t_image n_ v2 (v3 + (1 : Int32)) m_t_places m_t_begins m_t_court m_t_allowed m_t_sights m_t_page (upd m_t_weight (ix v3) (x_t_image (ix ((v2 + (40 : Int32)) + v3)))) m_t_sight))
def f_X6_restore_31 (x_t_image : Nat → Int32)  : Nat → Int32 → Int32 → Int32 → Int32 → Int32 → Int32 → Int32 → (Nat → Int32) → (Nat → Int32) → (Nat → Int32) → Option (Int32 × Int32 × Int32 × Int32 × Int32 × Int32 × (Nat → Int32) × (Nat → Int32) × (Nat → Int32))
  | 0, _, _, _, _, _, _, _, _, _, _ => none
  | n_ + 1, v2, v3, m_t_places, m_t_begins, m_t_court, m_t_allowed, m_t_sights, m_t_page, m_t_weight, m_t_sight =>
    if (40 : Int32) ≤ v3 then
      f_X6_restore_59 x_t_image FU v2 (0 : Int32) m_t_places m_t_begins m_t_court m_t_allowed m_t_sights m_t_page m_t_weight m_t_sight
    else
      ck (inB (v2 + v3) 136) (
      ck (inB v3 40) (
      f_X6_restore_31 x_t_image n_ v2 (v3 + (1 : Int32)) m_t_places m_t_begins m_t_court m_t_allowed m_t_sights (upd m_t_page (ix v3) (x_t_image (ix (v2 + v3)))) m_t_weight m_t_sight))
def f_X6_restore (p1 : Int32) (x_t_places : Int32) (x_t_begins : Int32) (x_t_court : Int32) (x_t_allowed : Int32) (x_t_sights : Int32) (x_t_isKept : Nat → Int32) (x_t_page : Nat → Int32) (x_t_image : Nat → Int32) (x_t_weight : Nat → Int32) (x_t_sight : Nat → Int32) : Option (Int32 × Int32 × Int32 × Int32 × Int32 × Int32 × (Nat → Int32) × (Nat → Int32) × (Nat → Int32)) :=
  Option.bind (f_X6_in p1 (0 : Int32) (1 : Int32)) (fun r3 =>
  if r3 = 0 then
    some ((-2 : Int32), x_t_places, x_t_begins, x_t_court, x_t_allowed, x_t_sights, x_t_page, x_t_weight, x_t_sight)
  else
    ck (inB p1 2) (
    if (x_t_isKept (ix p1)) = 0 then
      some ((-3 : Int32), x_t_places, x_t_begins, x_t_court, x_t_allowed, x_t_sights, x_t_page, x_t_weight, x_t_sight)
    else
      f_X6_restore_31 x_t_image FU ((68 : Int32) * p1) (0 : Int32) x_t_places x_t_begins x_t_court x_t_allowed x_t_sights x_t_page x_t_weight x_t_sight))
set_option maxHeartbeats 4000000 in
set_option maxRecDepth 100000 in
theorem c_X6_restore (l : Launch) (E : EN) (a_t a_t_isKept a_t_page a_t_image a_t_weight a_t_sight : Nat) (x_t_signs : Int32) (w_t_pad : Value) (x_t_places : Int32) (x_t_begins : Int32) (x_t_court : Int32) (x_t_allowed : Int32) (x_t_sights : Int32) (w_t_count : Value) (x_t_opens : Int32) (w_t_open : Value) (w_t_behind : Value) (w_t_outs : Value) (w_t_pack : Value) (x_t_isKept : Nat → Int32) (x_t_page : Nat → Int32) (x_t_image : Nat → Int32) (x_t_weight : Nat → Int32) (x_t_sight : Nat → Int32) (p1 : Int32) (res : Int32 × Int32 × Int32 × Int32 × Int32 × Int32 × (Nat → Int32) × (Nat → Int32) × (Nat → Int32)) (hf : f_X6_restore p1 x_t_places x_t_begins x_t_court x_t_allowed x_t_sights x_t_isKept x_t_page x_t_image x_t_weight x_t_sight = some res) : CtI l yX6_restore cX6_restore 4 .int 1 22 E [.ref a_t, .int p1] (wd_X6_restore E a_t a_t_isKept a_t_page a_t_image a_t_weight a_t_sight x_t_signs w_t_pad x_t_places x_t_begins x_t_court x_t_allowed x_t_sights w_t_count x_t_opens w_t_open w_t_behind w_t_outs w_t_pack x_t_isKept x_t_page x_t_image x_t_weight x_t_sight) (wd_X6_restore E a_t a_t_isKept a_t_page a_t_image a_t_weight a_t_sight x_t_signs w_t_pad res.2.1 res.2.2.1 res.2.2.2.1 res.2.2.2.2.1 res.2.2.2.2.2.1 w_t_count x_t_opens w_t_open w_t_behind w_t_outs w_t_pack x_t_isKept res.2.2.2.2.2.2.1 x_t_image res.2.2.2.2.2.2.2.1 res.2.2.2.2.2.2.2.2) res.1 := by
  refine CtI.of RX6 (by decide) rfl (Nat.le_of_ble_eq_true rfl) ?_
  intro p e s m below meth c A Q ls X hA hP hD hl fin
  have hx := X.1
  have hb := X.2.1
  have hl : lv_has ls 4 [(0, .ref a_t), (1, .int p1)] := hl
  have fin' : ∀ (fr0 : Int32) (fr1 : Int32) (fr2 : Int32) (fr3 : Int32) (fr4 : Int32) (fr5 : Int32) (fr6 : (Nat → Int32)) (fr7 : (Nat → Int32)) (fr8 : (Nat → Int32)), some (fr0, fr1, fr2, fr3, fr4, fr5, fr6, fr7, fr8) = some res → ∀ (pc : Nat) (ls : Array Slot) (H : Heap) (locs : List Loc), decode cX6_restore pc = .ok (.ireturn, 1) → narrow .int (.int fr0) = .int fr0 → va_P E.1 vwCl (wd_X6_restore E a_t a_t_isKept a_t_page a_t_image a_t_weight a_t_sight x_t_signs w_t_pad fr1 fr2 fr3 fr4 fr5 w_t_count x_t_opens w_t_open w_t_behind w_t_outs w_t_pack x_t_isKept fr6 x_t_image fr7 fr8) H → va_D A (wd_X6_restore E a_t a_t_isKept a_t_page a_t_image a_t_weight a_t_sight x_t_signs w_t_pad fr1 fr2 fr3 fr4 fr5 w_t_count x_t_opens w_t_open w_t_behind w_t_outs w_t_pack x_t_isKept fr6 x_t_image fr7 fr8) → va_S A s.heap H locs → W p l e (rmm 1 22) s m ([.ref a_t, .int p1] : List Value).toArray below meth c H locs 0 0 Q (F0 m pc ls [.int fr0]) := by
    intro fr0 fr1 fr2 fr3 fr4 fr5 fr6 fr7 fr8 he
    cases he
    exact fin
  have L90 : ∀ (n90 : Nat) (v2 : Int32) (v3 : Int32) (m_t_places : Int32) (m_t_begins : Int32) (m_t_court : Int32) (m_t_allowed : Int32) (m_t_sights : Int32) (m_t_page : Nat → Int32) (m_t_weight : Nat → Int32) (m_t_sight : Nat → Int32), f_X6_restore_90 x_t_image n90 v2 v3 m_t_places m_t_begins m_t_court m_t_allowed m_t_sights m_t_page m_t_weight m_t_sight = some res → ∀ (H : Heap) (locs : List Loc) (ls : Array Slot), va_P E.1 vwCl (wd_X6_restore E a_t a_t_isKept a_t_page a_t_image a_t_weight a_t_sight x_t_signs w_t_pad m_t_places m_t_begins m_t_court m_t_allowed m_t_sights w_t_count x_t_opens w_t_open w_t_behind w_t_outs w_t_pack x_t_isKept m_t_page x_t_image m_t_weight m_t_sight) H → va_D A (wd_X6_restore E a_t a_t_isKept a_t_page a_t_image a_t_weight a_t_sight x_t_signs w_t_pad m_t_places m_t_begins m_t_court m_t_allowed m_t_sights w_t_count x_t_opens w_t_open w_t_behind w_t_outs w_t_pack x_t_isKept m_t_page x_t_image m_t_weight m_t_sight) → va_S A s.heap H locs → lv_has ls 4 [(0, .ref a_t), (2, .int v2), (3, .int v3)] → W p l e (rmm 1 22) s m ([.ref a_t, .int p1] : List Value).toArray below meth c H locs 0 0 Q (F0 m 90 ls []) := by
    intro n90
    induction n90 with
    | zero => intro v2 v3 m_t_places m_t_begins m_t_court m_t_allowed m_t_sights m_t_page m_t_weight m_t_sight hf; rw [f_X6_restore_90] at hf; cases hf
    | succ n90 ih90 =>
      intro v2 v3 m_t_places m_t_begins m_t_court m_t_allowed m_t_sights m_t_page m_t_weight m_t_sight hf H locs ls hP hD hS hl
      rw [f_X6_restore_90] at hf
      refine lv_iload_n hx hb dX6_restore_90 rfl (lv_at hl 2 rfl) ?_
      refine lv_bipush (v := (12 : Int32)) hx hb dX6_restore_91 (by decide) ?_
      refine lv_icmp_ge (tgt := 119) hx hb dX6_restore_93 (by decide) (fun c_93 => ?_) (fun c_93 => ?_)
      · have hf := if_t c_93 hf
        refine lv_aload_n hx hb dX6_restore_119 rfl (lv_at hl 0 rfl) ?_
        refine lv_aload_n hx hb dX6_restore_120 rfl (lv_at hl 0 rfl) ?_
        refine gf_X6_50 X hP 0 rfl rfl dX6_restore_121 ?_
        refine lv_iload_n hx hb dX6_restore_124 rfl (lv_at hl 1 rfl) ?_
        refine lv_bipush (v := (63 : Int32)) hx hb dX6_restore_125 (by decide) ?_
        refine lv_iadd hx hb dX6_restore_127 ?_
        obtain ⟨hi128, hf⟩ := ck_some hf
        refine r_iald X hP 3 rfl hi128 dX6_restore_128 ?_
        refine pf_X6_13 X hP hD hS 0 rfl (Nat.le_of_ble_eq_true rfl) (ws' := (wd_X6_restore E a_t a_t_isKept a_t_page a_t_image a_t_weight a_t_sight x_t_signs w_t_pad (x_t_image (ix (v2 + (63 : Int32)))) m_t_begins m_t_court m_t_allowed m_t_sights w_t_count x_t_opens w_t_open w_t_behind w_t_outs w_t_pack x_t_isKept m_t_page x_t_image m_t_weight m_t_sight)) rfl dX6_restore_129 (fun H locs hP hD hS => ?_)
        refine lv_aload_n hx hb dX6_restore_132 rfl (lv_at hl 0 rfl) ?_
        refine lv_aload_n hx hb dX6_restore_133 rfl (lv_at hl 0 rfl) ?_
        refine gf_X6_50 X hP 0 rfl rfl dX6_restore_134 ?_
        refine lv_iload_n hx hb dX6_restore_137 rfl (lv_at hl 1 rfl) ?_
        refine lv_bipush (v := (64 : Int32)) hx hb dX6_restore_138 (by decide) ?_
        refine lv_iadd hx hb dX6_restore_140 ?_
        obtain ⟨hi141, hf⟩ := ck_some hf
        refine r_iald X hP 3 rfl hi141 dX6_restore_141 ?_
        refine pf_X6_20 X hP hD hS 0 rfl (Nat.le_of_ble_eq_true rfl) (ws' := (wd_X6_restore E a_t a_t_isKept a_t_page a_t_image a_t_weight a_t_sight x_t_signs w_t_pad (x_t_image (ix (v2 + (63 : Int32)))) (x_t_image (ix (v2 + (64 : Int32)))) m_t_court m_t_allowed m_t_sights w_t_count x_t_opens w_t_open w_t_behind w_t_outs w_t_pack x_t_isKept m_t_page x_t_image m_t_weight m_t_sight)) rfl dX6_restore_142 (fun H locs hP hD hS => ?_)
        refine lv_aload_n hx hb dX6_restore_145 rfl (lv_at hl 0 rfl) ?_
        refine lv_aload_n hx hb dX6_restore_146 rfl (lv_at hl 0 rfl) ?_
        refine gf_X6_50 X hP 0 rfl rfl dX6_restore_147 ?_
        refine lv_iload_n hx hb dX6_restore_150 rfl (lv_at hl 1 rfl) ?_
        refine lv_bipush (v := (65 : Int32)) hx hb dX6_restore_151 (by decide) ?_
        refine lv_iadd hx hb dX6_restore_153 ?_
        obtain ⟨hi154, hf⟩ := ck_some hf
        refine r_iald X hP 3 rfl hi154 dX6_restore_154 ?_
        refine pf_X6_23 X hP hD hS 0 rfl (Nat.le_of_ble_eq_true rfl) (ws' := (wd_X6_restore E a_t a_t_isKept a_t_page a_t_image a_t_weight a_t_sight x_t_signs w_t_pad (x_t_image (ix (v2 + (63 : Int32)))) (x_t_image (ix (v2 + (64 : Int32)))) (x_t_image (ix (v2 + (65 : Int32)))) m_t_allowed m_t_sights w_t_count x_t_opens w_t_open w_t_behind w_t_outs w_t_pack x_t_isKept m_t_page x_t_image m_t_weight m_t_sight)) rfl dX6_restore_155 (fun H locs hP hD hS => ?_)
        refine lv_aload_n hx hb dX6_restore_158 rfl (lv_at hl 0 rfl) ?_
        refine lv_aload_n hx hb dX6_restore_159 rfl (lv_at hl 0 rfl) ?_
        refine gf_X6_50 X hP 0 rfl rfl dX6_restore_160 ?_
        refine lv_iload_n hx hb dX6_restore_163 rfl (lv_at hl 1 rfl) ?_
        refine lv_bipush (v := (66 : Int32)) hx hb dX6_restore_164 (by decide) ?_
        refine lv_iadd hx hb dX6_restore_166 ?_
        obtain ⟨hi167, hf⟩ := ck_some hf
        refine r_iald X hP 3 rfl hi167 dX6_restore_167 ?_
        refine pf_X6_26 X hP hD hS 0 rfl (Nat.le_of_ble_eq_true rfl) (ws' := (wd_X6_restore E a_t a_t_isKept a_t_page a_t_image a_t_weight a_t_sight x_t_signs w_t_pad (x_t_image (ix (v2 + (63 : Int32)))) (x_t_image (ix (v2 + (64 : Int32)))) (x_t_image (ix (v2 + (65 : Int32)))) (x_t_image (ix (v2 + (66 : Int32)))) m_t_sights w_t_count x_t_opens w_t_open w_t_behind w_t_outs w_t_pack x_t_isKept m_t_page x_t_image m_t_weight m_t_sight)) rfl dX6_restore_168 (fun H locs hP hD hS => ?_)
        refine lv_aload_n hx hb dX6_restore_171 rfl (lv_at hl 0 rfl) ?_
        refine lv_aload_n hx hb dX6_restore_172 rfl (lv_at hl 0 rfl) ?_
        refine gf_X6_50 X hP 0 rfl rfl dX6_restore_173 ?_
        refine lv_iload_n hx hb dX6_restore_176 rfl (lv_at hl 1 rfl) ?_
        refine lv_bipush (v := (67 : Int32)) hx hb dX6_restore_177 (by decide) ?_
        refine lv_iadd hx hb dX6_restore_179 ?_
        obtain ⟨hi180, hf⟩ := ck_some hf
        refine r_iald X hP 3 rfl hi180 dX6_restore_180 ?_
        refine pf_X6_72 X hP hD hS 0 rfl (Nat.le_of_ble_eq_true rfl) (ws' := (wd_X6_restore E a_t a_t_isKept a_t_page a_t_image a_t_weight a_t_sight x_t_signs w_t_pad (x_t_image (ix (v2 + (63 : Int32)))) (x_t_image (ix (v2 + (64 : Int32)))) (x_t_image (ix (v2 + (65 : Int32)))) (x_t_image (ix (v2 + (66 : Int32)))) (x_t_image (ix (v2 + (67 : Int32)))) w_t_count x_t_opens w_t_open w_t_behind w_t_outs w_t_pack x_t_isKept m_t_page x_t_image m_t_weight m_t_sight)) rfl dX6_restore_181 (fun H locs hP hD hS => ?_)
        refine lv_iconst (v := (1 : Int32)) hx hb dX6_restore_184 (by decide) ?_
        exact fin' _ _ _ _ _ _ _ _ _ hf 185 ls H locs dX6_restore_185 rfl hP hD hS
      · have hf := if_f c_93 hf
        refine lv_aload_n hx hb dX6_restore_96 rfl (lv_at hl 0 rfl) ?_
        refine gf_X6_32 X hP 0 rfl rfl dX6_restore_97 ?_
        refine lv_iload_n hx hb dX6_restore_100 rfl (lv_at hl 2 rfl) ?_
        refine lv_aload_n hx hb dX6_restore_101 rfl (lv_at hl 0 rfl) ?_
        refine gf_X6_50 X hP 0 rfl rfl dX6_restore_102 ?_
        refine lv_iload_n hx hb dX6_restore_105 rfl (lv_at hl 1 rfl) ?_
        refine lv_bipush (v := (51 : Int32)) hx hb dX6_restore_106 (by decide) ?_
        refine lv_iadd hx hb dX6_restore_108 ?_
        refine lv_iload_n hx hb dX6_restore_109 rfl (lv_at hl 2 rfl) ?_
        refine lv_iadd hx hb dX6_restore_110 ?_
        obtain ⟨hi111, hf⟩ := ck_some hf
        refine r_iald X hP 3 rfl hi111 dX6_restore_111 ?_
        obtain ⟨hi112, hf⟩ := ck_some hf
        refine r_iast X hP hD hS 5 rfl hi112 (ws' := (wd_X6_restore E a_t a_t_isKept a_t_page a_t_image a_t_weight a_t_sight x_t_signs w_t_pad m_t_places m_t_begins m_t_court m_t_allowed m_t_sights w_t_count x_t_opens w_t_open w_t_behind w_t_outs w_t_pack x_t_isKept m_t_page x_t_image m_t_weight (upd m_t_sight (ix v3) (x_t_image (ix ((v2 + (51 : Int32)) + v3)))))) rfl dX6_restore_112 (fun H locs hP hD hS => ?_)
        refine lv_iinc (v := (v3 + (1 : Int32))) (lv' := [(3, .int (v3 + (1 : Int32))), (0, .ref a_t), (2, .int v2)]) hx hb dX6_restore_113 hl (k := 2) rfl rfl (by decide) rfl (fun ls hl => ?_)
        refine lv_goto (tgt := 90) hx hb dX6_restore_116 (by decide) ?_
        exact ih90 v2 (v3 + (1 : Int32)) m_t_places m_t_begins m_t_court m_t_allowed m_t_sights m_t_page m_t_weight (upd m_t_sight (ix v3) (x_t_image (ix ((v2 + (51 : Int32)) + v3)))) hf H locs ls hP hD hS (lv_sub hl [1, 2, 0] rfl)
  have L59 : ∀ (n59 : Nat) (v2 : Int32) (v3 : Int32) (m_t_places : Int32) (m_t_begins : Int32) (m_t_court : Int32) (m_t_allowed : Int32) (m_t_sights : Int32) (m_t_page : Nat → Int32) (m_t_weight : Nat → Int32) (m_t_sight : Nat → Int32), f_X6_restore_59 x_t_image n59 v2 v3 m_t_places m_t_begins m_t_court m_t_allowed m_t_sights m_t_page m_t_weight m_t_sight = some res → ∀ (H : Heap) (locs : List Loc) (ls : Array Slot), va_P E.1 vwCl (wd_X6_restore E a_t a_t_isKept a_t_page a_t_image a_t_weight a_t_sight x_t_signs w_t_pad m_t_places m_t_begins m_t_court m_t_allowed m_t_sights w_t_count x_t_opens w_t_open w_t_behind w_t_outs w_t_pack x_t_isKept m_t_page x_t_image m_t_weight m_t_sight) H → va_D A (wd_X6_restore E a_t a_t_isKept a_t_page a_t_image a_t_weight a_t_sight x_t_signs w_t_pad m_t_places m_t_begins m_t_court m_t_allowed m_t_sights w_t_count x_t_opens w_t_open w_t_behind w_t_outs w_t_pack x_t_isKept m_t_page x_t_image m_t_weight m_t_sight) → va_S A s.heap H locs → lv_has ls 4 [(0, .ref a_t), (2, .int v2), (3, .int v3)] → W p l e (rmm 1 22) s m ([.ref a_t, .int p1] : List Value).toArray below meth c H locs 0 0 Q (F0 m 59 ls []) := by
    intro n59
    induction n59 with
    | zero => intro v2 v3 m_t_places m_t_begins m_t_court m_t_allowed m_t_sights m_t_page m_t_weight m_t_sight hf; rw [f_X6_restore_59] at hf; cases hf
    | succ n59 ih59 =>
      intro v2 v3 m_t_places m_t_begins m_t_court m_t_allowed m_t_sights m_t_page m_t_weight m_t_sight hf H locs ls hP hD hS hl
      rw [f_X6_restore_59] at hf
      refine lv_iload_n hx hb dX6_restore_59 rfl (lv_at hl 2 rfl) ?_
      refine lv_bipush (v := (11 : Int32)) hx hb dX6_restore_60 (by decide) ?_
      refine lv_icmp_ge (tgt := 88) hx hb dX6_restore_62 (by decide) (fun c_62 => ?_) (fun c_62 => ?_)
      · have hf := if_t c_62 hf
        refine lv_iconst (v := (0 : Int32)) hx hb dX6_restore_88 (by decide) ?_
        refine lv_istore_n (lv' := [(3, .int (0 : Int32)), (0, .ref a_t), (2, .int v2)]) hx hb dX6_restore_89 rfl hl (by decide) rfl (fun ls hl => ?_)
        exact L90 FU v2 (0 : Int32) m_t_places m_t_begins m_t_court m_t_allowed m_t_sights m_t_page m_t_weight m_t_sight hf H locs ls hP hD hS (lv_sub hl [1, 2, 0] rfl)
      · have hf := if_f c_62 hf
        refine lv_aload_n hx hb dX6_restore_65 rfl (lv_at hl 0 rfl) ?_
        refine gf_X6_29 X hP 0 rfl rfl dX6_restore_66 ?_
        refine lv_iload_n hx hb dX6_restore_69 rfl (lv_at hl 2 rfl) ?_
        refine lv_aload_n hx hb dX6_restore_70 rfl (lv_at hl 0 rfl) ?_
        refine gf_X6_50 X hP 0 rfl rfl dX6_restore_71 ?_
        refine lv_iload_n hx hb dX6_restore_74 rfl (lv_at hl 1 rfl) ?_
        refine lv_bipush (v := (40 : Int32)) hx hb dX6_restore_75 (by decide) ?_
        refine lv_iadd hx hb dX6_restore_77 ?_
        refine lv_iload_n hx hb dX6_restore_78 rfl (lv_at hl 2 rfl) ?_
        refine lv_iadd hx hb dX6_restore_79 ?_
        obtain ⟨hi80, hf⟩ := ck_some hf
        refine r_iald X hP 3 rfl hi80 dX6_restore_80 ?_
        obtain ⟨hi81, hf⟩ := ck_some hf
        refine r_iast X hP hD hS 4 rfl hi81 (ws' := (wd_X6_restore E a_t a_t_isKept a_t_page a_t_image a_t_weight a_t_sight x_t_signs w_t_pad m_t_places m_t_begins m_t_court m_t_allowed m_t_sights w_t_count x_t_opens w_t_open w_t_behind w_t_outs w_t_pack x_t_isKept m_t_page x_t_image (upd m_t_weight (ix v3) (x_t_image (ix ((v2 + (40 : Int32)) + v3)))) m_t_sight)) rfl dX6_restore_81 (fun H locs hP hD hS => ?_)
        refine lv_iinc (v := (v3 + (1 : Int32))) (lv' := [(3, .int (v3 + (1 : Int32))), (0, .ref a_t), (2, .int v2)]) hx hb dX6_restore_82 hl (k := 2) rfl rfl (by decide) rfl (fun ls hl => ?_)
        refine lv_goto (tgt := 59) hx hb dX6_restore_85 (by decide) ?_
        exact ih59 v2 (v3 + (1 : Int32)) m_t_places m_t_begins m_t_court m_t_allowed m_t_sights m_t_page (upd m_t_weight (ix v3) (x_t_image (ix ((v2 + (40 : Int32)) + v3)))) m_t_sight hf H locs ls hP hD hS (lv_sub hl [1, 2, 0] rfl)
  have L31 : ∀ (n31 : Nat) (v2 : Int32) (v3 : Int32) (m_t_places : Int32) (m_t_begins : Int32) (m_t_court : Int32) (m_t_allowed : Int32) (m_t_sights : Int32) (m_t_page : Nat → Int32) (m_t_weight : Nat → Int32) (m_t_sight : Nat → Int32), f_X6_restore_31 x_t_image n31 v2 v3 m_t_places m_t_begins m_t_court m_t_allowed m_t_sights m_t_page m_t_weight m_t_sight = some res → ∀ (H : Heap) (locs : List Loc) (ls : Array Slot), va_P E.1 vwCl (wd_X6_restore E a_t a_t_isKept a_t_page a_t_image a_t_weight a_t_sight x_t_signs w_t_pad m_t_places m_t_begins m_t_court m_t_allowed m_t_sights w_t_count x_t_opens w_t_open w_t_behind w_t_outs w_t_pack x_t_isKept m_t_page x_t_image m_t_weight m_t_sight) H → va_D A (wd_X6_restore E a_t a_t_isKept a_t_page a_t_image a_t_weight a_t_sight x_t_signs w_t_pad m_t_places m_t_begins m_t_court m_t_allowed m_t_sights w_t_count x_t_opens w_t_open w_t_behind w_t_outs w_t_pack x_t_isKept m_t_page x_t_image m_t_weight m_t_sight) → va_S A s.heap H locs → lv_has ls 4 [(0, .ref a_t), (2, .int v2), (3, .int v3)] → W p l e (rmm 1 22) s m ([.ref a_t, .int p1] : List Value).toArray below meth c H locs 0 0 Q (F0 m 31 ls []) := by
    intro n31
    induction n31 with
    | zero => intro v2 v3 m_t_places m_t_begins m_t_court m_t_allowed m_t_sights m_t_page m_t_weight m_t_sight hf; rw [f_X6_restore_31] at hf; cases hf
    | succ n31 ih31 =>
      intro v2 v3 m_t_places m_t_begins m_t_court m_t_allowed m_t_sights m_t_page m_t_weight m_t_sight hf H locs ls hP hD hS hl
      rw [f_X6_restore_31] at hf
      refine lv_iload_n hx hb dX6_restore_31 rfl (lv_at hl 2 rfl) ?_
      refine lv_bipush (v := (40 : Int32)) hx hb dX6_restore_32 (by decide) ?_
      refine lv_icmp_ge (tgt := 57) hx hb dX6_restore_34 (by decide) (fun c_34 => ?_) (fun c_34 => ?_)
      · have hf := if_t c_34 hf
        refine lv_iconst (v := (0 : Int32)) hx hb dX6_restore_57 (by decide) ?_
        refine lv_istore_n (lv' := [(3, .int (0 : Int32)), (0, .ref a_t), (2, .int v2)]) hx hb dX6_restore_58 rfl hl (by decide) rfl (fun ls hl => ?_)
        exact L59 FU v2 (0 : Int32) m_t_places m_t_begins m_t_court m_t_allowed m_t_sights m_t_page m_t_weight m_t_sight hf H locs ls hP hD hS (lv_sub hl [1, 2, 0] rfl)
      · have hf := if_f c_34 hf
        refine lv_aload_n hx hb dX6_restore_37 rfl (lv_at hl 0 rfl) ?_
        refine gf_X6_17 X hP 0 rfl rfl dX6_restore_38 ?_
        refine lv_iload_n hx hb dX6_restore_41 rfl (lv_at hl 2 rfl) ?_
        refine lv_aload_n hx hb dX6_restore_42 rfl (lv_at hl 0 rfl) ?_
        refine gf_X6_50 X hP 0 rfl rfl dX6_restore_43 ?_
        refine lv_iload_n hx hb dX6_restore_46 rfl (lv_at hl 1 rfl) ?_
        refine lv_iload_n hx hb dX6_restore_47 rfl (lv_at hl 2 rfl) ?_
        refine lv_iadd hx hb dX6_restore_48 ?_
        obtain ⟨hi49, hf⟩ := ck_some hf
        refine r_iald X hP 3 rfl hi49 dX6_restore_49 ?_
        obtain ⟨hi50, hf⟩ := ck_some hf
        refine r_iast X hP hD hS 2 rfl hi50 (ws' := (wd_X6_restore E a_t a_t_isKept a_t_page a_t_image a_t_weight a_t_sight x_t_signs w_t_pad m_t_places m_t_begins m_t_court m_t_allowed m_t_sights w_t_count x_t_opens w_t_open w_t_behind w_t_outs w_t_pack x_t_isKept (upd m_t_page (ix v3) (x_t_image (ix (v2 + v3)))) x_t_image m_t_weight m_t_sight)) rfl dX6_restore_50 (fun H locs hP hD hS => ?_)
        refine lv_iinc (v := (v3 + (1 : Int32))) (lv' := [(3, .int (v3 + (1 : Int32))), (0, .ref a_t), (2, .int v2)]) hx hb dX6_restore_51 hl (k := 2) rfl rfl (by decide) rfl (fun ls hl => ?_)
        refine lv_goto (tgt := 31) hx hb dX6_restore_54 (by decide) ?_
        exact ih31 v2 (v3 + (1 : Int32)) m_t_places m_t_begins m_t_court m_t_allowed m_t_sights (upd m_t_page (ix v3) (x_t_image (ix (v2 + v3)))) m_t_weight m_t_sight hf H locs ls hP hD hS (lv_sub hl [1, 2, 0] rfl)
  have hS : va_S A s.heap s.heap [] := va_S.rf
  obtain ⟨H, hH9⟩ : ∃ z, z = s.heap := ⟨_, rfl⟩
  obtain ⟨locs, hL9⟩ : ∃ z : List Loc, z = [] := ⟨_, rfl⟩
  rw [← hL9]
  rw [← hL9] at hS
  have hP : va_P E.1 vwCl (wd_X6_restore E a_t a_t_isKept a_t_page a_t_image a_t_weight a_t_sight x_t_signs w_t_pad x_t_places x_t_begins x_t_court x_t_allowed x_t_sights w_t_count x_t_opens w_t_open w_t_behind w_t_outs w_t_pack x_t_isKept x_t_page x_t_image x_t_weight x_t_sight) H := by rw [hH9]; exact hP
  have hS : va_S A s.heap H locs := by rw [hH9]; exact hS
  suffices hgoal : W p l e (rmm 1 22) s m ([.ref a_t, .int p1] : List Value).toArray below meth c H locs 0 0 Q (F0 m 0 ls []) by rw [hH9] at hgoal; exact hgoal
  rw [f_X6_restore] at hf
  refine lv_iload_n hx hb dX6_restore_0 rfl (lv_at hl 1 rfl) ?_
  refine lv_iconst (v := (0 : Int32)) hx hb dX6_restore_1 (by decide) ?_
  refine lv_iconst (v := (1 : Int32)) hx hb dX6_restore_2 (by decide) ?_
  obtain ⟨r3, hc3, hf⟩ := bd_some hf
  refine cS_I X hA hP hD hS hl.1 (c_X6_in l E p1 (0 : Int32) (1 : Int32) r3 hc3) 3 k_692 mw_X6_in hd_X6_in ⟨Nat.le_of_ble_eq_true rfl, Nat.le_of_ble_eq_true rfl⟩ [] [0, 1, 2, 3, 4, 5] [0, 1, 2, 3, 4, 5] rfl rfl (wr := [0, 1, 2, 3, 4, 5].filterMap (fun i => (wd_X6_restore E a_t a_t_isKept a_t_page a_t_image a_t_weight a_t_sight x_t_signs w_t_pad x_t_places x_t_begins x_t_court x_t_allowed x_t_sights w_t_count x_t_opens w_t_open w_t_behind w_t_outs w_t_pack x_t_isKept x_t_page x_t_image x_t_weight x_t_sight)[i]?)) rfl rfl rfl rfl rfl (Nat.le_of_ble_eq_true rfl) rfl (ws' := (wd_X6_restore E a_t a_t_isKept a_t_page a_t_image a_t_weight a_t_sight x_t_signs w_t_pad x_t_places x_t_begins x_t_court x_t_allowed x_t_sights w_t_count x_t_opens w_t_open w_t_behind w_t_outs w_t_pack x_t_isKept x_t_page x_t_image x_t_weight x_t_sight)) rfl ⟨Nat.le_of_ble_eq_true rfl, Nat.le_of_ble_eq_true rfl⟩ dX6_restore_3 (fun H locs hP hD hS => ?_)
  refine lv_if_ne (tgt := 12) hx hb dX6_restore_6 (by decide) (fun c_6 => ?_) (fun c_6 => ?_)
  · have hf := if_f c_6 hf
    refine lv_aload_n hx hb dX6_restore_12 rfl (lv_at hl 0 rfl) ?_
    refine gf_X6_53 X hP 0 rfl rfl dX6_restore_13 ?_
    refine lv_iload_n hx hb dX6_restore_16 rfl (lv_at hl 1 rfl) ?_
    obtain ⟨hi17, hf⟩ := ck_some hf
    refine r_zald X hP 1 rfl hi17 dX6_restore_17 ?_
    refine lv_if_ne (tgt := 24) hx hb dX6_restore_18 (by decide) (fun c_18 => ?_) (fun c_18 => ?_)
    · have hf := if_f c_18 hf
      refine lv_bipush (v := (68 : Int32)) hx hb dX6_restore_24 (by decide) ?_
      refine lv_iload_n hx hb dX6_restore_26 rfl (lv_at hl 1 rfl) ?_
      refine lv_imul hx hb dX6_restore_27 ?_
      refine lv_istore_n (lv' := [(2, .int ((68 : Int32) * p1)), (0, .ref a_t), (1, .int p1)]) hx hb dX6_restore_28 rfl hl (by decide) rfl (fun ls hl => ?_)
      refine lv_iconst (v := (0 : Int32)) hx hb dX6_restore_29 (by decide) ?_
      refine lv_istore_n (lv' := [(3, .int (0 : Int32)), (2, .int ((68 : Int32) * p1)), (0, .ref a_t), (1, .int p1)]) hx hb dX6_restore_30 rfl hl (by decide) rfl (fun ls hl => ?_)
      exact L31 FU ((68 : Int32) * p1) (0 : Int32) x_t_places x_t_begins x_t_court x_t_allowed x_t_sights x_t_page x_t_weight x_t_sight hf H locs ls hP hD hS (lv_sub hl [2, 1, 0] rfl)
    · have hf := if_t c_18 hf
      refine lv_bipush (v := (-3 : Int32)) hx hb dX6_restore_21 (by decide) ?_
      exact fin' _ _ _ _ _ _ _ _ _ hf 23 ls H locs dX6_restore_23 rfl hP hD hS
  · have hf := if_t c_6 hf
    refine lv_bipush (v := (-2 : Int32)) hx hb dX6_restore_9 (by decide) ?_
    exact fin' _ _ _ _ _ _ _ _ _ hf 11 ls H locs dX6_restore_11 rfl hP hD hS
abbrev wd_X6_told (E : EN) (a_t : Nat) (a_t_page : Nat) (a_t_weight : Nat) (x_t_signs : Int32) (w_t_pad : Value) (x_t_places : Int32) (x_t_begins : Int32) (x_t_court : Int32) (x_t_allowed : Int32) (x_t_sights : Int32) (w_t_sight : Value) (w_t_count : Value) (x_t_opens : Int32) (w_t_open : Value) (w_t_behind : Value) (w_t_outs : Value) (w_t_pack : Value) (w_t_image : Value) (w_t_isKept : Value) (x_t_page : Nat → Int32) (x_t_weight : Nat → Int32) : va_W := [(a_t, e_O 6 [.int x_t_signs, w_t_pad, .int x_t_places, .ref a_t_page, .int x_t_begins, .int x_t_court, .int x_t_allowed, .ref a_t_weight, .int x_t_sights, w_t_sight, w_t_count, .int x_t_opens, w_t_open, w_t_behind, w_t_outs, w_t_pack, w_t_image, w_t_isKept]), (a_t_page, e_I E 40 x_t_page), (a_t_weight, e_I E 11 x_t_weight)]
def f_X6_told (p1 : Int32) (x_t_signs : Int32) (x_t_places : Int32) (x_t_begins : Int32) (x_t_court : Int32) (x_t_allowed : Int32) (x_t_sights : Int32) (x_t_page : Nat → Int32) (x_t_weight : Nat → Int32) : Option (Int32) :=
  if p1 = 0 then
    some x_t_signs
  else
  if p1 = 1 then
    some x_t_places
  else
  if p1 = 2 then
    some x_t_begins
  else
  if p1 = 3 then
    some x_t_court
  else
  if p1 = 4 then
    some x_t_allowed
  else
  if p1 = 5 then
    Option.bind (f_X6_many (42 : Int32) x_t_places x_t_page) (fun r76 =>
    some r76)
  else
  if p1 = 6 then
    Option.bind (f_X6_many (63 : Int32) x_t_places x_t_page) (fun r83 =>
    some r83)
  else
  if p1 = 7 then
    some x_t_sights
  else
  Option.bind (f_X6_in p1 (11 : Int32) (20 : Int32)) (fun r97 =>
  if r97 = 0 then
    some (-2 : Int32)
  else
    ck (inB (p1 - (10 : Int32)) 11) (
    some (x_t_weight (ix (p1 - (10 : Int32))))))
set_option maxHeartbeats 4000000 in
set_option maxRecDepth 100000 in
theorem c_X6_told (l : Launch) (E : EN) (a_t a_t_page a_t_weight : Nat) (x_t_signs : Int32) (w_t_pad : Value) (x_t_places : Int32) (x_t_begins : Int32) (x_t_court : Int32) (x_t_allowed : Int32) (x_t_sights : Int32) (w_t_sight : Value) (w_t_count : Value) (x_t_opens : Int32) (w_t_open : Value) (w_t_behind : Value) (w_t_outs : Value) (w_t_pack : Value) (w_t_image : Value) (w_t_isKept : Value) (x_t_page : Nat → Int32) (x_t_weight : Nat → Int32) (p1 : Int32) (res : Int32) (hf : f_X6_told p1 x_t_signs x_t_places x_t_begins x_t_court x_t_allowed x_t_sights x_t_page x_t_weight = some res) : CtI l yX6_told cX6_told 2 .int 1 23 E [.ref a_t, .int p1] (wd_X6_told E a_t a_t_page a_t_weight x_t_signs w_t_pad x_t_places x_t_begins x_t_court x_t_allowed x_t_sights w_t_sight w_t_count x_t_opens w_t_open w_t_behind w_t_outs w_t_pack w_t_image w_t_isKept x_t_page x_t_weight) (wd_X6_told E a_t a_t_page a_t_weight x_t_signs w_t_pad x_t_places x_t_begins x_t_court x_t_allowed x_t_sights w_t_sight w_t_count x_t_opens w_t_open w_t_behind w_t_outs w_t_pack w_t_image w_t_isKept x_t_page x_t_weight) res := by
  refine CtI.of RX6 (by decide) rfl (Nat.le_of_ble_eq_true rfl) ?_
  intro p e s m below meth c A Q ls X hA hP hD hl fin
  have hx := X.1
  have hb := X.2.1
  have hl : lv_has ls 2 [(0, .ref a_t), (1, .int p1)] := hl
  have fin' : ∀ (fr0 : Int32), some fr0 = some res → ∀ (pc : Nat) (ls : Array Slot) (H : Heap) (locs : List Loc), decode cX6_told pc = .ok (.ireturn, 1) → narrow .int (.int fr0) = .int fr0 → va_P E.1 vwCl (wd_X6_told E a_t a_t_page a_t_weight x_t_signs w_t_pad x_t_places x_t_begins x_t_court x_t_allowed x_t_sights w_t_sight w_t_count x_t_opens w_t_open w_t_behind w_t_outs w_t_pack w_t_image w_t_isKept x_t_page x_t_weight) H → va_D A (wd_X6_told E a_t a_t_page a_t_weight x_t_signs w_t_pad x_t_places x_t_begins x_t_court x_t_allowed x_t_sights w_t_sight w_t_count x_t_opens w_t_open w_t_behind w_t_outs w_t_pack w_t_image w_t_isKept x_t_page x_t_weight) → va_S A s.heap H locs → W p l e (rmm 1 23) s m ([.ref a_t, .int p1] : List Value).toArray below meth c H locs 0 0 Q (F0 m pc ls [.int fr0]) := by
    intro fr0 he
    cases he
    exact fin
  have hS : va_S A s.heap s.heap [] := va_S.rf
  obtain ⟨H, hH9⟩ : ∃ z, z = s.heap := ⟨_, rfl⟩
  obtain ⟨locs, hL9⟩ : ∃ z : List Loc, z = [] := ⟨_, rfl⟩
  rw [← hL9]
  rw [← hL9] at hS
  have hP : va_P E.1 vwCl (wd_X6_told E a_t a_t_page a_t_weight x_t_signs w_t_pad x_t_places x_t_begins x_t_court x_t_allowed x_t_sights w_t_sight w_t_count x_t_opens w_t_open w_t_behind w_t_outs w_t_pack w_t_image w_t_isKept x_t_page x_t_weight) H := by rw [hH9]; exact hP
  have hS : va_S A s.heap H locs := by rw [hH9]; exact hS
  suffices hgoal : W p l e (rmm 1 23) s m ([.ref a_t, .int p1] : List Value).toArray below meth c H locs 0 0 Q (F0 m 0 ls []) by rw [hH9] at hgoal; exact hgoal
  rw [f_X6_told] at hf
  refine lv_iload_n hx hb dX6_told_0 rfl (lv_at hl 1 rfl) ?_
  by_cases w1_0 : p1 = 0
  · have hf := if_t w1_0 hf
    refine lv_tableIn (off := 47) (tgt := 48) hx hb dX6_told_1 (by rw [w1_0]; decide) (by rw [w1_0]; decide) (by rw [w1_0]; rfl) (by decide) ?_
    refine lv_aload_n hx hb dX6_told_48 rfl (lv_at hl 0 rfl) ?_
    refine gf_X6_61 X hP 0 rfl rfl dX6_told_49 ?_
    exact fin' _ hf 52 ls H locs dX6_told_52 rfl hP hD hS
  have hf := if_f w1_0 hf
  by_cases w1_1 : p1 = 1
  · have hf := if_t w1_1 hf
    refine lv_tableIn (off := 52) (tgt := 53) hx hb dX6_told_1 (by rw [w1_1]; decide) (by rw [w1_1]; decide) (by rw [w1_1]; rfl) (by decide) ?_
    refine lv_aload_n hx hb dX6_told_53 rfl (lv_at hl 0 rfl) ?_
    refine gf_X6_13 X hP 0 rfl rfl dX6_told_54 ?_
    exact fin' _ hf 57 ls H locs dX6_told_57 rfl hP hD hS
  have hf := if_f w1_1 hf
  by_cases w1_2 : p1 = 2
  · have hf := if_t w1_2 hf
    refine lv_tableIn (off := 57) (tgt := 58) hx hb dX6_told_1 (by rw [w1_2]; decide) (by rw [w1_2]; decide) (by rw [w1_2]; rfl) (by decide) ?_
    refine lv_aload_n hx hb dX6_told_58 rfl (lv_at hl 0 rfl) ?_
    refine gf_X6_20 X hP 0 rfl rfl dX6_told_59 ?_
    exact fin' _ hf 62 ls H locs dX6_told_62 rfl hP hD hS
  have hf := if_f w1_2 hf
  by_cases w1_3 : p1 = 3
  · have hf := if_t w1_3 hf
    refine lv_tableIn (off := 62) (tgt := 63) hx hb dX6_told_1 (by rw [w1_3]; decide) (by rw [w1_3]; decide) (by rw [w1_3]; rfl) (by decide) ?_
    refine lv_aload_n hx hb dX6_told_63 rfl (lv_at hl 0 rfl) ?_
    refine gf_X6_23 X hP 0 rfl rfl dX6_told_64 ?_
    exact fin' _ hf 67 ls H locs dX6_told_67 rfl hP hD hS
  have hf := if_f w1_3 hf
  by_cases w1_4 : p1 = 4
  · have hf := if_t w1_4 hf
    refine lv_tableIn (off := 67) (tgt := 68) hx hb dX6_told_1 (by rw [w1_4]; decide) (by rw [w1_4]; decide) (by rw [w1_4]; rfl) (by decide) ?_
    refine lv_aload_n hx hb dX6_told_68 rfl (lv_at hl 0 rfl) ?_
    refine gf_X6_26 X hP 0 rfl rfl dX6_told_69 ?_
    exact fin' _ hf 72 ls H locs dX6_told_72 rfl hP hD hS
  have hf := if_f w1_4 hf
  by_cases w1_5 : p1 = 5
  · have hf := if_t w1_5 hf
    refine lv_tableIn (off := 72) (tgt := 73) hx hb dX6_told_1 (by rw [w1_5]; decide) (by rw [w1_5]; decide) (by rw [w1_5]; rfl) (by decide) ?_
    refine lv_aload_n hx hb dX6_told_73 rfl (lv_at hl 0 rfl) ?_
    refine lv_bipush (v := (42 : Int32)) hx hb dX6_told_74 (by decide) ?_
    obtain ⟨r76, hc76, hf⟩ := bd_some hf
    refine cV_I X hA hP hD hS hl.1 (c_X6_many l E a_t a_t_page x_t_signs w_t_pad x_t_places x_t_begins x_t_court x_t_allowed (.ref a_t_weight) x_t_sights w_t_sight w_t_count x_t_opens w_t_open w_t_behind w_t_outs w_t_pack w_t_image w_t_isKept x_t_page (42 : Int32) r76 hc76) 1 k_753 mw_X6_many hd_X6_many ⟨Nat.le_of_ble_eq_true rfl, Nat.le_of_ble_eq_true rfl⟩ [0, 1] [2] [1, 2, 0] rfl rfl (wr := [2].filterMap (fun i => (wd_X6_told E a_t a_t_page a_t_weight x_t_signs w_t_pad x_t_places x_t_begins x_t_court x_t_allowed x_t_sights w_t_sight w_t_count x_t_opens w_t_open w_t_behind w_t_outs w_t_pack w_t_image w_t_isKept x_t_page x_t_weight)[i]?)) rfl rfl rfl 6 0 rfl rfl rfl rfl rfl (Nat.le_of_ble_eq_true rfl) rfl (ws' := (wd_X6_told E a_t a_t_page a_t_weight x_t_signs w_t_pad x_t_places x_t_begins x_t_court x_t_allowed x_t_sights w_t_sight w_t_count x_t_opens w_t_open w_t_behind w_t_outs w_t_pack w_t_image w_t_isKept x_t_page x_t_weight)) rfl ⟨Nat.le_of_ble_eq_true rfl, Nat.le_of_ble_eq_true rfl⟩ dX6_told_76 (fun H locs hP hD hS => ?_)
    exact fin' _ hf 79 ls H locs dX6_told_79 rfl hP hD hS
  have hf := if_f w1_5 hf
  by_cases w1_6 : p1 = 6
  · have hf := if_t w1_6 hf
    refine lv_tableIn (off := 79) (tgt := 80) hx hb dX6_told_1 (by rw [w1_6]; decide) (by rw [w1_6]; decide) (by rw [w1_6]; rfl) (by decide) ?_
    refine lv_aload_n hx hb dX6_told_80 rfl (lv_at hl 0 rfl) ?_
    refine lv_bipush (v := (63 : Int32)) hx hb dX6_told_81 (by decide) ?_
    obtain ⟨r83, hc83, hf⟩ := bd_some hf
    refine cV_I X hA hP hD hS hl.1 (c_X6_many l E a_t a_t_page x_t_signs w_t_pad x_t_places x_t_begins x_t_court x_t_allowed (.ref a_t_weight) x_t_sights w_t_sight w_t_count x_t_opens w_t_open w_t_behind w_t_outs w_t_pack w_t_image w_t_isKept x_t_page (63 : Int32) r83 hc83) 1 k_753 mw_X6_many hd_X6_many ⟨Nat.le_of_ble_eq_true rfl, Nat.le_of_ble_eq_true rfl⟩ [0, 1] [2] [1, 2, 0] rfl rfl (wr := [2].filterMap (fun i => (wd_X6_told E a_t a_t_page a_t_weight x_t_signs w_t_pad x_t_places x_t_begins x_t_court x_t_allowed x_t_sights w_t_sight w_t_count x_t_opens w_t_open w_t_behind w_t_outs w_t_pack w_t_image w_t_isKept x_t_page x_t_weight)[i]?)) rfl rfl rfl 6 0 rfl rfl rfl rfl rfl (Nat.le_of_ble_eq_true rfl) rfl (ws' := (wd_X6_told E a_t a_t_page a_t_weight x_t_signs w_t_pad x_t_places x_t_begins x_t_court x_t_allowed x_t_sights w_t_sight w_t_count x_t_opens w_t_open w_t_behind w_t_outs w_t_pack w_t_image w_t_isKept x_t_page x_t_weight)) rfl ⟨Nat.le_of_ble_eq_true rfl, Nat.le_of_ble_eq_true rfl⟩ dX6_told_83 (fun H locs hP hD hS => ?_)
    exact fin' _ hf 86 ls H locs dX6_told_86 rfl hP hD hS
  have hf := if_f w1_6 hf
  by_cases w1_7 : p1 = 7
  · have hf := if_t w1_7 hf
    refine lv_tableIn (off := 86) (tgt := 87) hx hb dX6_told_1 (by rw [w1_7]; decide) (by rw [w1_7]; decide) (by rw [w1_7]; rfl) (by decide) ?_
    refine lv_aload_n hx hb dX6_told_87 rfl (lv_at hl 0 rfl) ?_
    refine gf_X6_72 X hP 0 rfl rfl dX6_told_88 ?_
    exact fin' _ hf 91 ls H locs dX6_told_91 rfl hP hD hS
  have hf := if_f w1_7 hf
  refine lv_tableOut (x := p1) (tgt := 92) hx hb dX6_told_1 (by have q0 := lv_neT (a := 0) w1_0 (by decide); have q1 := lv_neT (a := 1) w1_1 (by decide); have q2 := lv_neT (a := 2) w1_2 (by decide); have q3 := lv_neT (a := 3) w1_3 (by decide); have q4 := lv_neT (a := 4) w1_4 (by decide); have q5 := lv_neT (a := 5) w1_5 (by decide); have q6 := lv_neT (a := 6) w1_6 (by decide); have q7 := lv_neT (a := 7) w1_7 (by decide); omega) (by decide) ?_
  refine lv_iload_n hx hb dX6_told_92 rfl (lv_at hl 1 rfl) ?_
  refine lv_bipush (v := (11 : Int32)) hx hb dX6_told_93 (by decide) ?_
  refine lv_bipush (v := (20 : Int32)) hx hb dX6_told_95 (by decide) ?_
  obtain ⟨r97, hc97, hf⟩ := bd_some hf
  refine cS_I X hA hP hD hS hl.1 (c_X6_in l E p1 (11 : Int32) (20 : Int32) r97 hc97) 3 k_692 mw_X6_in hd_X6_in ⟨Nat.le_of_ble_eq_true rfl, Nat.le_of_ble_eq_true rfl⟩ [] [0, 1, 2] [0, 1, 2] rfl rfl (wr := [0, 1, 2].filterMap (fun i => (wd_X6_told E a_t a_t_page a_t_weight x_t_signs w_t_pad x_t_places x_t_begins x_t_court x_t_allowed x_t_sights w_t_sight w_t_count x_t_opens w_t_open w_t_behind w_t_outs w_t_pack w_t_image w_t_isKept x_t_page x_t_weight)[i]?)) rfl rfl rfl rfl rfl (Nat.le_of_ble_eq_true rfl) rfl (ws' := (wd_X6_told E a_t a_t_page a_t_weight x_t_signs w_t_pad x_t_places x_t_begins x_t_court x_t_allowed x_t_sights w_t_sight w_t_count x_t_opens w_t_open w_t_behind w_t_outs w_t_pack w_t_image w_t_isKept x_t_page x_t_weight)) rfl ⟨Nat.le_of_ble_eq_true rfl, Nat.le_of_ble_eq_true rfl⟩ dX6_told_97 (fun H locs hP hD hS => ?_)
  refine lv_if_eq (tgt := 115) hx hb dX6_told_100 (by decide) (fun c_100 => ?_) (fun c_100 => ?_)
  · have hf := if_t c_100 hf
    refine lv_bipush (v := (-2 : Int32)) hx hb dX6_told_115 (by decide) ?_
    exact fin' _ hf 117 ls H locs dX6_told_117 rfl hP hD hS
  · have hf := if_f c_100 hf
    refine lv_aload_n hx hb dX6_told_103 rfl (lv_at hl 0 rfl) ?_
    refine gf_X6_29 X hP 0 rfl rfl dX6_told_104 ?_
    refine lv_iload_n hx hb dX6_told_107 rfl (lv_at hl 1 rfl) ?_
    refine lv_bipush (v := (10 : Int32)) hx hb dX6_told_108 (by decide) ?_
    refine lv_isub hx hb dX6_told_110 ?_
    obtain ⟨hi111, hf⟩ := ck_some hf
    refine r_iald X hP 2 rfl hi111 dX6_told_111 ?_
    refine lv_goto (tgt := 117) hx hb dX6_told_112 (by decide) ?_
    exact fin' _ hf 117 ls H locs dX6_told_117 rfl hP hD hS
