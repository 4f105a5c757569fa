abbrev wd_X3_take (E : EN) (a_t : Nat) (a_p1 : Nat) (a_t_text : Nat) (w_t_weights : Value) (w_t_sightFrom : Value) (w_t_sightOut : Value) (x_t_places : Int32) (x_t_beginnings : Int32) (x_t_courtCount : Int32) (x_t_allowed : Int32) (x_t_sights : Int32) (x_t_kept : Int32) (x_p1 : Nat → Int32) (x_t_text : Nat → Int32) : va_W := [(a_t, e_O 3 [.ref a_t_text, w_t_weights, w_t_sightFrom, w_t_sightOut, .int x_t_places, .int x_t_beginnings, .int x_t_courtCount, .int x_t_allowed, .int x_t_sights, .int x_t_kept]), (a_p1, e_C E 48 x_p1), (a_t_text, e_C E 40 x_t_text)]
def f_X3_take (p2 : Int32) (x_p1 : Nat → Int32) (x_t_text : Nat → Int32) : Option (Int32 × Int32 × Int32 × (Nat → Int32)) :=
  ck (okC (0 : Int32) (0 : Int32) (if (40 : Int32) < p2 then (40 : Int32) else p2) 48 40) (
  ck (fitC x_p1 (0 : Int32) (if (40 : Int32) < p2 then (40 : Int32) else p2)) (
  some ((if (40 : Int32) < p2 then (40 : Int32) else p2), (1 : Int32), (0 : Int32), (va_cpy x_p1 x_t_text (ix (0 : Int32)) (ix (0 : Int32)) (ix (if (40 : Int32) < p2 then (40 : Int32) else p2))))))
set_option maxHeartbeats 4000000 in
set_option maxRecDepth 100000 in
theorem c_X3_take (l : Launch) (E : EN) (a_t a_p1 a_t_text : Nat) (w_t_weights : Value) (w_t_sightFrom : Value) (w_t_sightOut : Value) (x_t_places : Int32) (x_t_beginnings : Int32) (x_t_courtCount : Int32) (x_t_allowed : Int32) (x_t_sights : Int32) (x_t_kept : Int32) (x_p1 : Nat → Int32) (x_t_text : Nat → Int32) (p2 : Int32) (res : Int32 × Int32 × Int32 × (Nat → Int32)) (hf : f_X3_take p2 x_p1 x_t_text = some res) : CtV l yX3_take cX3_take 3 1 60 E [.ref a_t, .ref a_p1, .int p2] (wd_X3_take E a_t a_p1 a_t_text w_t_weights w_t_sightFrom w_t_sightOut x_t_places x_t_beginnings x_t_courtCount x_t_allowed x_t_sights x_t_kept x_p1 x_t_text) (wd_X3_take E a_t a_p1 a_t_text w_t_weights w_t_sightFrom w_t_sightOut res.1 res.2.1 x_t_courtCount x_t_allowed res.2.2.1 x_t_kept x_p1 res.2.2.2) := by
  refine CtV.of RX3 (by decide) rfl (Nat.le_of_ble_eq_true rfl) ?_
  intro p e s m below meth c A Q ls X hA hP hD hl fin
  have hx := X.1
  have hb := X.2.1
  have hl : lv_has ls 3 [(0, .ref a_t), (1, .ref a_p1), (2, .int p2)] := hl
  have fin' : ∀ (fr0 : Int32) (fr1 : Int32) (fr2 : Int32) (fr3 : (Nat → Int32)), some (fr0, fr1, fr2, fr3) = some res → ∀ (pc : Nat) (ls : Array Slot) (H : Heap) (locs : List Loc), decode cX3_take pc = .ok (.return_, 1) → va_P E.1 vwCl (wd_X3_take E a_t a_p1 a_t_text w_t_weights w_t_sightFrom w_t_sightOut fr0 fr1 x_t_courtCount x_t_allowed fr2 x_t_kept x_p1 fr3) H → va_D A (wd_X3_take E a_t a_p1 a_t_text w_t_weights w_t_sightFrom w_t_sightOut fr0 fr1 x_t_courtCount x_t_allowed fr2 x_t_kept x_p1 fr3) → va_S A s.heap H locs → W p l e (rmm 1 60) s m ([.ref a_t, .ref a_p1, .int p2] : List Value).toArray below meth c H locs 0 0 Q (F0 m pc ls []) := by
    intro fr0 fr1 fr2 fr3 he
    cases he
    exact fin
  have hS : va_S A s.heap s.heap [] := va_S.rf
  obtain ⟨H, hH9⟩ : ∃ z, z = s.heap := ⟨_, rfl⟩
  obtain ⟨locs, hL9⟩ : ∃ z : List Loc, z = [] := ⟨_, rfl⟩
  rw [← hL9]
  rw [← hL9] at hS
  have hP : va_P E.1 vwCl (wd_X3_take E a_t a_p1 a_t_text w_t_weights w_t_sightFrom w_t_sightOut x_t_places x_t_beginnings x_t_courtCount x_t_allowed x_t_sights x_t_kept x_p1 x_t_text) H := by rw [hH9]; exact hP
  have hS : va_S A s.heap H locs := by rw [hH9]; exact hS
  suffices hgoal : W p l e (rmm 1 60) s m ([.ref a_t, .ref a_p1, .int p2] : List Value).toArray below meth c H locs 0 0 Q (F0 m 0 ls []) by rw [hH9] at hgoal; exact hgoal
  rw [f_X3_take] at hf
  refine lv_aload_n hx hb dX3_take_0 rfl (lv_at hl 0 rfl) ?_
  refine lv_iload_n hx hb dX3_take_1 rfl (lv_at hl 2 rfl) ?_
  refine lv_bipush (v := (40 : Int32)) hx hb dX3_take_2 (by decide) ?_
  refine r_mmin X hl.1 k_335 (Nat.le_of_ble_eq_true rfl) (Nat.le_of_ble_eq_true rfl) (Nat.le_of_ble_eq_true rfl) (Nat.le_of_ble_eq_true rfl) dX3_take_4 ?_
  refine pf_X3_25 X hP hD hS 0 rfl (Nat.le_of_ble_eq_true rfl) (ws' := (wd_X3_take E a_t a_p1 a_t_text w_t_weights w_t_sightFrom w_t_sightOut (if (40 : Int32) < p2 then (40 : Int32) else p2) x_t_beginnings x_t_courtCount x_t_allowed x_t_sights x_t_kept x_p1 x_t_text)) rfl dX3_take_7 (fun H locs hP hD hS => ?_)
  refine lv_aload_n hx hb dX3_take_10 rfl (lv_at hl 1 rfl) ?_
  refine lv_iconst (v := (0 : Int32)) hx hb dX3_take_11 (by decide) ?_
  refine lv_aload_n hx hb dX3_take_12 rfl (lv_at hl 0 rfl) ?_
  refine gf_X3_9 X hP 0 rfl rfl dX3_take_13 ?_
  refine lv_iconst (v := (0 : Int32)) hx hb dX3_take_16 (by decide) ?_
  refine lv_aload_n hx hb dX3_take_17 rfl (lv_at hl 0 rfl) ?_
  refine gf_X3_25 X hP 0 rfl rfl dX3_take_18 ?_
  obtain ⟨hk21, hf⟩ := ck_some hf
  obtain ⟨hg21, hf⟩ := ck_some hf
  refine r_copyC X hl.1 k_338 hP hD hS 1 2 rfl rfl hk21 hg21 (Nat.le_of_ble_eq_true rfl) (Nat.le_of_ble_eq_true rfl) (ws' := (wd_X3_take E a_t a_p1 a_t_text w_t_weights w_t_sightFrom w_t_sightOut (if (40 : Int32) < p2 then (40 : Int32) else p2) x_t_beginnings x_t_courtCount x_t_allowed x_t_sights x_t_kept x_p1 (va_cpy x_p1 x_t_text (ix (0 : Int32)) (ix (0 : Int32)) (ix (if (40 : Int32) < p2 then (40 : Int32) else p2))))) rfl dX3_take_21 (fun H locs hP hD hS => ?_)
  refine lv_aload_n hx hb dX3_take_24 rfl (lv_at hl 0 rfl) ?_
  refine lv_iconst (v := (1 : Int32)) hx hb dX3_take_25 (by decide) ?_
  refine pf_X3_29 X hP hD hS 0 rfl (Nat.le_of_ble_eq_true rfl) (ws' := (wd_X3_take E a_t a_p1 a_t_text w_t_weights w_t_sightFrom w_t_sightOut (if (40 : Int32) < p2 then (40 : Int32) else p2) (1 : Int32) x_t_courtCount x_t_allowed x_t_sights x_t_kept x_p1 (va_cpy x_p1 x_t_text (ix (0 : Int32)) (ix (0 : Int32)) (ix (if (40 : Int32) < p2 then (40 : Int32) else p2))))) rfl dX3_take_26 (fun H locs hP hD hS => ?_)
  refine lv_aload_n hx hb dX3_take_29 rfl (lv_at hl 0 rfl) ?_
  refine lv_iconst (v := (0 : Int32)) hx hb dX3_take_30 (by decide) ?_
  refine pf_X3_38 X hP hD hS 0 rfl (Nat.le_of_ble_eq_true rfl) (ws' := (wd_X3_take E a_t a_p1 a_t_text w_t_weights w_t_sightFrom w_t_sightOut (if (40 : Int32) < p2 then (40 : Int32) else p2) (1 : Int32) x_t_courtCount x_t_allowed (0 : Int32) x_t_kept x_p1 (va_cpy x_p1 x_t_text (ix (0 : Int32)) (ix (0 : Int32)) (ix (if (40 : Int32) < p2 then (40 : Int32) else p2))))) rfl dX3_take_31 (fun H locs hP hD hS => ?_)
  exact fin' _ _ _ _ hf 34 ls H locs dX3_take_34 hP hD hS
abbrev wd_X3_weightOfAll (E : EN) (a_t : Nat) (a_t_weights : Nat) (w_t_text : Value) (w_t_sightFrom : Value) (w_t_sightOut : Value) (x_t_places : Int32) (x_t_beginnings : Int32) (x_t_courtCount : Int32) (x_t_allowed : Int32) (x_t_sights : Int32) (x_t_kept : Int32) (x_t_weights : Nat → Int32) : va_W := [(a_t, e_O 3 [w_t_text, .ref a_t_weights, w_t_sightFrom, w_t_sightOut, .int x_t_places, .int x_t_beginnings, .int x_t_courtCount, .int x_t_allowed, .int x_t_sights, .int x_t_kept]), (a_t_weights, e_I E 11 x_t_weights)]
def f_X3_weightOfAll_4 (x_t_weights : Nat → Int32)  : Nat → Int32 → Int32 → Option (Int32)
  | 0, _, _ => none
  | n_ + 1, v1, v2 =>
    if (10 : Int32) < v2 then
      some v1
    else
      ck (inB v2 11) (
      f_X3_weightOfAll_4 x_t_weights n_ (v1 + (x_t_weights (ix v2))) (v2 + (1 : Int32)))
def f_X3_weightOfAll (x_t_weights : Nat → Int32) : Option (Int32) :=
  f_X3_weightOfAll_4 x_t_weights FU (0 : Int32) (1 : Int32)
set_option maxHeartbeats 4000000 in
set_option maxRecDepth 100000 in
theorem c_X3_weightOfAll (l : Launch) (E : EN) (a_t a_t_weights : Nat) (w_t_text : Value) (w_t_sightFrom : Value) (w_t_sightOut : Value) (x_t_places : Int32) (x_t_beginnings : Int32) (x_t_courtCount : Int32) (x_t_allowed : Int32) (x_t_sights : Int32) (x_t_kept : Int32) (x_t_weights : Nat → Int32)  (res : Int32) (hf : f_X3_weightOfAll x_t_weights = some res) : CtI l yX3_weightOfAll cX3_weightOfAll 3 .int 0 0 E [.ref a_t] (wd_X3_weightOfAll E a_t a_t_weights w_t_text w_t_sightFrom w_t_sightOut x_t_places x_t_beginnings x_t_courtCount x_t_allowed x_t_sights x_t_kept x_t_weights) (wd_X3_weightOfAll E a_t a_t_weights w_t_text w_t_sightFrom w_t_sightOut x_t_places x_t_beginnings x_t_courtCount x_t_allowed x_t_sights x_t_kept x_t_weights) res := by
  refine CtI.of RX3 (by decide) rfl (Nat.le_of_ble_eq_true rfl) ?_
  intro p e s m below meth c A Q ls X hA hP hD hl fin
  have hx := X.1
  have hb := X.2.1
  have hl : lv_has ls 3 [(0, .ref a_t)] := hl
  have fin' : ∀ (fr0 : Int32), some fr0 = some res → ∀ (pc : Nat) (ls : Array Slot) (H : Heap) (locs : List Loc), decode cX3_weightOfAll pc = .ok (.ireturn, 1) → narrow .int (.int fr0) = .int fr0 → va_P E.1 vwCl (wd_X3_weightOfAll E a_t a_t_weights w_t_text w_t_sightFrom w_t_sightOut x_t_places x_t_beginnings x_t_courtCount x_t_allowed x_t_sights x_t_kept x_t_weights) H → va_D A (wd_X3_weightOfAll E a_t a_t_weights w_t_text w_t_sightFrom w_t_sightOut x_t_places x_t_beginnings x_t_courtCount x_t_allowed x_t_sights x_t_kept x_t_weights) → va_S A s.heap H locs → W p l e (rmm 0 0) s m ([.ref a_t] : List Value).toArray below meth c H locs 0 0 Q (F0 m pc ls [.int fr0]) := by
    intro fr0 he
    cases he
    exact fin
  have L4 : ∀ (n4 : Nat) (v1 : Int32) (v2 : Int32), f_X3_weightOfAll_4 x_t_weights n4 v1 v2 = some res → ∀ (H : Heap) (locs : List Loc) (ls : Array Slot), va_P E.1 vwCl (wd_X3_weightOfAll E a_t a_t_weights w_t_text w_t_sightFrom w_t_sightOut x_t_places x_t_beginnings x_t_courtCount x_t_allowed x_t_sights x_t_kept x_t_weights) H → va_D A (wd_X3_weightOfAll E a_t a_t_weights w_t_text w_t_sightFrom w_t_sightOut x_t_places x_t_beginnings x_t_courtCount x_t_allowed x_t_sights x_t_kept x_t_weights) → va_S A s.heap H locs → lv_has ls 3 [(0, .ref a_t), (1, .int v1), (2, .int v2)] → W p l e (rmm 0 0) s m ([.ref a_t] : List Value).toArray below meth c H locs 0 0 Q (F0 m 4 ls []) := by
    intro n4
    induction n4 with
    | zero => intro v1 v2 hf; rw [f_X3_weightOfAll_4] at hf; cases hf
    | succ n4 ih4 =>
      intro v1 v2 hf H locs ls hP hD hS hl
      rw [f_X3_weightOfAll_4] at hf
      refine lv_iload_n hx hb dX3_weightOfAll_4 rfl (lv_at hl 2 rfl) ?_
      refine lv_bipush (v := (10 : Int32)) hx hb dX3_weightOfAll_5 (by decide) ?_
      refine lv_icmp_gt (tgt := 25) hx hb dX3_weightOfAll_7 (by decide) (fun c_7 => ?_) (fun c_7 => ?_)
      · have hf := if_t c_7 hf
        refine lv_iload_n hx hb dX3_weightOfAll_25 rfl (lv_at hl 1 rfl) ?_
        exact fin' _ hf 26 ls H locs dX3_weightOfAll_26 rfl hP hD hS
      · have hf := if_f c_7 hf
        refine lv_iload_n hx hb dX3_weightOfAll_10 rfl (lv_at hl 1 rfl) ?_
        refine lv_aload_n hx hb dX3_weightOfAll_11 rfl (lv_at hl 0 rfl) ?_
        refine gf_X3_15 X hP 0 rfl rfl dX3_weightOfAll_12 ?_
        refine lv_iload_n hx hb dX3_weightOfAll_15 rfl (lv_at hl 2 rfl) ?_
        obtain ⟨hi16, hf⟩ := ck_some hf
        refine r_iald X hP 1 rfl hi16 dX3_weightOfAll_16 ?_
        refine lv_iadd hx hb dX3_weightOfAll_17 ?_
        refine lv_istore_n (lv' := [(1, .int (v1 + (x_t_weights (ix v2)))), (0, .ref a_t), (2, .int v2)]) hx hb dX3_weightOfAll_18 rfl hl (by decide) rfl (fun ls hl => ?_)
        refine lv_iinc (v := (v2 + (1 : Int32))) (lv' := [(2, .int (v2 + (1 : Int32))), (1, .int (v1 + (x_t_weights (ix v2)))), (0, .ref a_t)]) hx hb dX3_weightOfAll_19 hl (k := 2) rfl rfl (by decide) rfl (fun ls hl => ?_)
        refine lv_goto (tgt := 4) hx hb dX3_weightOfAll_22 (by decide) ?_
        exact ih4 (v1 + (x_t_weights (ix v2))) (v2 + (1 : Int32)) hf H locs ls hP hD hS (lv_sub hl [2, 1, 0] rfl)
  have hS : va_S A s.heap s.heap [] := va_S.rf
  obtain ⟨H, hH9⟩ : ∃ z, z = s.heap := ⟨_, rfl⟩
  obtain ⟨locs, hL9⟩ : ∃ z : List Loc, z = [] := ⟨_, rfl⟩
  rw [← hL9]
  rw [← hL9] at hS
  have hP : va_P E.1 vwCl (wd_X3_weightOfAll E a_t a_t_weights w_t_text w_t_sightFrom w_t_sightOut x_t_places x_t_beginnings x_t_courtCount x_t_allowed x_t_sights x_t_kept x_t_weights) H := by rw [hH9]; exact hP
  have hS : va_S A s.heap H locs := by rw [hH9]; exact hS
  suffices hgoal : W p l e (rmm 0 0) s m ([.ref a_t] : List Value).toArray below meth c H locs 0 0 Q (F0 m 0 ls []) by rw [hH9] at hgoal; exact hgoal
  rw [f_X3_weightOfAll] at hf
  refine lv_iconst (v := (0 : Int32)) hx hb dX3_weightOfAll_0 (by decide) ?_
  refine lv_istore_n (lv' := [(1, .int (0 : Int32)), (0, .ref a_t)]) hx hb dX3_weightOfAll_1 rfl hl (by decide) rfl (fun ls hl => ?_)
  refine lv_iconst (v := (1 : Int32)) hx hb dX3_weightOfAll_2 (by decide) ?_
  refine lv_istore_n (lv' := [(2, .int (1 : Int32)), (1, .int (0 : Int32)), (0, .ref a_t)]) hx hb dX3_weightOfAll_3 rfl hl (by decide) rfl (fun ls hl => ?_)
  exact L4 FU (0 : Int32) (1 : Int32) hf H locs ls hP hD hS (lv_sub hl [2, 1, 0] rfl)
abbrev wd_X3_has (E : EN) (a_t : Nat) (w_t_text : Value) (w_t_weights : Value) (w_t_sightFrom : Value) (w_t_sightOut : Value) (x_t_places : Int32) (x_t_beginnings : Int32) (x_t_courtCount : Int32) (x_t_allowed : Int32) (x_t_sights : Int32) (x_t_kept : Int32) : va_W := [(a_t, e_O 3 [w_t_text, w_t_weights, w_t_sightFrom, w_t_sightOut, .int x_t_places, .int x_t_beginnings, .int x_t_courtCount, .int x_t_allowed, .int x_t_sights, .int x_t_kept])]
def f_X3_has (p1 : Int32) (x_t_places : Int32) : Option (Int32) :=
  if p1 < 0 then
    some (0 : Int32)
  else
    if x_t_places ≤ p1 then
      some (0 : Int32)
    else
      some (1 : Int32)
set_option maxHeartbeats 4000000 in
set_option maxRecDepth 100000 in
theorem c_X3_has (l : Launch) (E : EN) (a_t : Nat) (w_t_text : Value) (w_t_weights : Value) (w_t_sightFrom : Value) (w_t_sightOut : Value) (x_t_places : Int32) (x_t_beginnings : Int32) (x_t_courtCount : Int32) (x_t_allowed : Int32) (x_t_sights : Int32) (x_t_kept : Int32) (p1 : Int32) (res : Int32) (hf : f_X3_has p1 x_t_places = some res) : CtI l yX3_has cX3_has 2 .boolean 0 0 E [.ref a_t, .int p1] (wd_X3_has E a_t w_t_text w_t_weights w_t_sightFrom w_t_sightOut x_t_places x_t_beginnings x_t_courtCount x_t_allowed x_t_sights x_t_kept) (wd_X3_has E a_t w_t_text w_t_weights w_t_sightFrom w_t_sightOut x_t_places x_t_beginnings x_t_courtCount x_t_allowed x_t_sights x_t_kept) res := by
  refine CtI.of RX3 (by decide) rfl (Nat.le_of_ble_eq_true rfl) ?_
  intro p e s m below meth c A Q ls X hA hP hD hl fin
  have hx := X.1
  have hb := X.2.1
  have hl : lv_has ls 2 [(0, .ref a_t), (1, .int p1)] := hl
  have fin' : ∀ (fr0 : Int32), some fr0 = some res → ∀ (pc : Nat) (ls : Array Slot) (H : Heap) (locs : List Loc), decode cX3_has pc = .ok (.ireturn, 1) → narrow .boolean (.int fr0) = .int fr0 → va_P E.1 vwCl (wd_X3_has E a_t w_t_text w_t_weights w_t_sightFrom w_t_sightOut x_t_places x_t_beginnings x_t_courtCount x_t_allowed x_t_sights x_t_kept) H → va_D A (wd_X3_has E a_t w_t_text w_t_weights w_t_sightFrom w_t_sightOut x_t_places x_t_beginnings x_t_courtCount x_t_allowed x_t_sights x_t_kept) → va_S A s.heap H locs → W p l e (rmm 0 0) s m ([.ref a_t, .int p1] : List Value).toArray below meth c H locs 0 0 Q (F0 m pc ls [.int fr0]) := by
    intro fr0 he
    cases he
    exact fin
  have hS : va_S A s.heap s.heap [] := va_S.rf
  obtain ⟨H, hH9⟩ : ∃ z, z = s.heap := ⟨_, rfl⟩
  obtain ⟨locs, hL9⟩ : ∃ z : List Loc, z = [] := ⟨_, rfl⟩
  rw [← hL9]
  rw [← hL9] at hS
  have hP : va_P E.1 vwCl (wd_X3_has E a_t w_t_text w_t_weights w_t_sightFrom w_t_sightOut x_t_places x_t_beginnings x_t_courtCount x_t_allowed x_t_sights x_t_kept) H := by rw [hH9]; exact hP
  have hS : va_S A s.heap H locs := by rw [hH9]; exact hS
  suffices hgoal : W p l e (rmm 0 0) s m ([.ref a_t, .int p1] : List Value).toArray below meth c H locs 0 0 Q (F0 m 0 ls []) by rw [hH9] at hgoal; exact hgoal
  rw [f_X3_has] at hf
  refine lv_iload_n hx hb dX3_has_0 rfl (lv_at hl 1 rfl) ?_
  refine lv_if_lt (tgt := 16) hx hb dX3_has_1 (by decide) (fun c_1 => ?_) (fun c_1 => ?_)
  · have hf := if_t c_1 hf
    refine lv_iconst (v := (0 : Int32)) hx hb dX3_has_16 (by decide) ?_
    exact fin' _ hf 17 ls H locs dX3_has_17 rfl hP hD hS
  · have hf := if_f c_1 hf
    refine lv_iload_n hx hb dX3_has_4 rfl (lv_at hl 1 rfl) ?_
    refine lv_aload_n hx hb dX3_has_5 rfl (lv_at hl 0 rfl) ?_
    refine gf_X3_25 X hP 0 rfl rfl dX3_has_6 ?_
    refine lv_icmp_ge (tgt := 16) hx hb dX3_has_9 (by decide) (fun c_9 => ?_) (fun c_9 => ?_)
    · have hf := if_t c_9 hf
      refine lv_iconst (v := (0 : Int32)) hx hb dX3_has_16 (by decide) ?_
      exact fin' _ hf 17 ls H locs dX3_has_17 rfl hP hD hS
    · have hf := if_f c_9 hf
      refine lv_iconst (v := (1 : Int32)) hx hb dX3_has_12 (by decide) ?_
      refine lv_goto (tgt := 17) hx hb dX3_has_13 (by decide) ?_
      exact fin' _ hf 17 ls H locs dX3_has_17 rfl hP hD hS
abbrev wd_X3_howMany (E : EN) (a_t : Nat) (a_t_text : Nat) (w_t_weights : Value) (w_t_sightFrom : Value) (w_t_sightOut : Value) (x_t_places : Int32) (x_t_beginnings : Int32) (x_t_courtCount : Int32) (x_t_allowed : Int32) (x_t_sights : Int32) (x_t_kept : Int32) (x_t_text : Nat → Int32) : va_W := [(a_t, e_O 3 [.ref a_t_text, w_t_weights, w_t_sightFrom, w_t_sightOut, .int x_t_places, .int x_t_beginnings, .int x_t_courtCount, .int x_t_allowed, .int x_t_sights, .int x_t_kept]), (a_t_text, e_C E 40 x_t_text)]
def f_X3_howMany_4 (p1 : Int32) (x_t_places : Int32) (x_t_text : Nat → Int32)  : Nat → Int32 → Int32 → Option (Int32)
  | 0, _, _ => none
  | n_ + 1, v2, v3 =>
    if x_t_places ≤ v3 then
      some v2
    else
      ck (inB v3 40) (
      if (x_t_text (ix v3)) = p1 then
        f_X3_howMany_4 p1 x_t_places x_t_text n_ (v2 + (1 : Int32)) (v3 + (1 : Int32))
      else
        f_X3_howMany_4 p1 x_t_places x_t_text n_ v2 (v3 + (1 : Int32)))
def f_X3_howMany (p1 : Int32) (x_t_places : Int32) (x_t_text : Nat → Int32) : Option (Int32) :=
  f_X3_howMany_4 p1 x_t_places x_t_text FU (0 : Int32) (0 : Int32)
set_option maxHeartbeats 4000000 in
set_option maxRecDepth 100000 in
theorem c_X3_howMany (l : Launch) (E : EN) (a_t a_t_text : Nat) (w_t_weights : Value) (w_t_sightFrom : Value) (w_t_sightOut : Value) (x_t_places : Int32) (x_t_beginnings : Int32) (x_t_courtCount : Int32) (x_t_allowed : Int32) (x_t_sights : Int32) (x_t_kept : Int32) (x_t_text : Nat → Int32) (p1 : Int32) (res : Int32) (hf : f_X3_howMany p1 x_t_places x_t_text = some res) : CtI l yX3_howMany cX3_howMany 4 .int 0 0 E [.ref a_t, .int p1] (wd_X3_howMany E a_t a_t_text w_t_weights w_t_sightFrom w_t_sightOut x_t_places x_t_beginnings x_t_courtCount x_t_allowed x_t_sights x_t_kept x_t_text) (wd_X3_howMany E a_t a_t_text w_t_weights w_t_sightFrom w_t_sightOut x_t_places x_t_beginnings x_t_courtCount x_t_allowed x_t_sights x_t_kept x_t_text) res := by
  refine CtI.of RX3 (by decide) rfl (Nat.le_of_ble_eq_true rfl) ?_
  intro p e s m below meth c A Q ls X hA hP hD hl fin
  have hx := X.1
  have hb := X.2.1
  have hl : lv_has ls 4 [(0, .ref a_t), (1, .int p1)] := hl
  have fin' : ∀ (fr0 : Int32), some fr0 = some res → ∀ (pc : Nat) (ls : Array Slot) (H : Heap) (locs : List Loc), decode cX3_howMany pc = .ok (.ireturn, 1) → narrow .int (.int fr0) = .int fr0 → va_P E.1 vwCl (wd_X3_howMany E a_t a_t_text w_t_weights w_t_sightFrom w_t_sightOut x_t_places x_t_beginnings x_t_courtCount x_t_allowed x_t_sights x_t_kept x_t_text) H → va_D A (wd_X3_howMany E a_t a_t_text w_t_weights w_t_sightFrom w_t_sightOut x_t_places x_t_beginnings x_t_courtCount x_t_allowed x_t_sights x_t_kept x_t_text) → va_S A s.heap H locs → W p l e (rmm 0 0) s m ([.ref a_t, .int p1] : List Value).toArray below meth c H locs 0 0 Q (F0 m pc ls [.int fr0]) := by
    intro fr0 he
    cases he
    exact fin
  have L4 : ∀ (n4 : Nat) (v2 : Int32) (v3 : Int32), f_X3_howMany_4 p1 x_t_places x_t_text n4 v2 v3 = some res → ∀ (H : Heap) (locs : List Loc) (ls : Array Slot), va_P E.1 vwCl (wd_X3_howMany E a_t a_t_text w_t_weights w_t_sightFrom w_t_sightOut x_t_places x_t_beginnings x_t_courtCount x_t_allowed x_t_sights x_t_kept x_t_text) H → va_D A (wd_X3_howMany E a_t a_t_text w_t_weights w_t_sightFrom w_t_sightOut x_t_places x_t_beginnings x_t_courtCount x_t_allowed x_t_sights x_t_kept x_t_text) → va_S A s.heap H locs → lv_has ls 4 [(0, .ref a_t), (1, .int p1), (2, .int v2), (3, .int v3)] → W p l e (rmm 0 0) s m ([.ref a_t, .int p1] : List Value).toArray below meth c H locs 0 0 Q (F0 m 4 ls []) := by
    intro n4
    induction n4 with
    | zero => intro v2 v3 hf; rw [f_X3_howMany_4] at hf; cases hf
    | succ n4 ih4 =>
      intro v2 v3 hf H locs ls hP hD hS hl
      rw [f_X3_howMany_4] at hf
      refine lv_iload_n hx hb dX3_howMany_4 rfl (lv_at hl 3 rfl) ?_
      refine lv_aload_n hx hb dX3_howMany_5 rfl (lv_at hl 0 rfl) ?_
      refine gf_X3_25 X hP 0 rfl rfl dX3_howMany_6 ?_
      refine lv_icmp_ge (tgt := 31) hx hb dX3_howMany_9 (by decide) (fun c_9 => ?_) (fun c_9 => ?_)
      · have hf := if_t c_9 hf
        refine lv_iload_n hx hb dX3_howMany_31 rfl (lv_at hl 2 rfl) ?_
        exact fin' _ hf 32 ls H locs dX3_howMany_32 rfl hP hD hS
      · have hf := if_f c_9 hf
        refine lv_aload_n hx hb dX3_howMany_12 rfl (lv_at hl 0 rfl) ?_
        refine gf_X3_9 X hP 0 rfl rfl dX3_howMany_13 ?_
        refine lv_iload_n hx hb dX3_howMany_16 rfl (lv_at hl 3 rfl) ?_
        obtain ⟨hi17, hf⟩ := ck_some hf
        refine r_cald X hP 1 rfl hi17 dX3_howMany_17 ?_
        refine lv_iload_n hx hb dX3_howMany_18 rfl (lv_at hl 1 rfl) ?_
        refine lv_icmp_ne (tgt := 25) hx hb dX3_howMany_19 (by decide) (fun c_19 => ?_) (fun c_19 => ?_)
        · have hf := if_f c_19 hf
          refine lv_iinc (v := (v3 + (1 : Int32))) (lv' := [(3, .int (v3 + (1 : Int32))), (0, .ref a_t), (1, .int p1), (2, .int v2)]) hx hb dX3_howMany_25 hl (k := 3) rfl rfl (by decide) rfl (fun ls hl => ?_)
          refine lv_goto (tgt := 4) hx hb dX3_howMany_28 (by decide) ?_
          exact ih4 v2 (v3 + (1 : Int32)) hf H locs ls hP hD hS (lv_sub hl [1, 2, 3, 0] rfl)
        · have hf := if_t c_19 hf
          refine lv_iinc (v := (v2 + (1 : Int32))) (lv' := [(2, .int (v2 + (1 : Int32))), (0, .ref a_t), (1, .int p1), (3, .int v3)]) hx hb dX3_howMany_22 hl (k := 2) rfl rfl (by decide) rfl (fun ls hl => ?_)
          refine lv_iinc (v := (v3 + (1 : Int32))) (lv' := [(3, .int (v3 + (1 : Int32))), (2, .int (v2 + (1 : Int32))), (0, .ref a_t), (1, .int p1)]) hx hb dX3_howMany_25 hl (k := 3) rfl rfl (by decide) rfl (fun ls hl => ?_)
          refine lv_goto (tgt := 4) hx hb dX3_howMany_28 (by decide) ?_
          exact ih4 (v2 + (1 : Int32)) (v3 + (1 : Int32)) hf H locs ls hP hD hS (lv_sub hl [2, 3, 1, 0] rfl)
  have hS : va_S A s.heap s.heap [] := va_S.rf
  obtain ⟨H, hH9⟩ : ∃ z, z = s.heap := ⟨_, rfl⟩
  obtain ⟨locs, hL9⟩ : ∃ z : List Loc, z = [] := ⟨_, rfl⟩
  rw [← hL9]
  rw [← hL9] at hS
  have hP : va_P E.1 vwCl (wd_X3_howMany E a_t a_t_text w_t_weights w_t_sightFrom w_t_sightOut x_t_places x_t_beginnings x_t_courtCount x_t_allowed x_t_sights x_t_kept x_t_text) H := by rw [hH9]; exact hP
  have hS : va_S A s.heap H locs := by rw [hH9]; exact hS
  suffices hgoal : W p l e (rmm 0 0) s m ([.ref a_t, .int p1] : List Value).toArray below meth c H locs 0 0 Q (F0 m 0 ls []) by rw [hH9] at hgoal; exact hgoal
  rw [f_X3_howMany] at hf
  refine lv_iconst (v := (0 : Int32)) hx hb dX3_howMany_0 (by decide) ?_
  refine lv_istore_n (lv' := [(2, .int (0 : Int32)), (0, .ref a_t), (1, .int p1)]) hx hb dX3_howMany_1 rfl hl (by decide) rfl (fun ls hl => ?_)
  refine lv_iconst (v := (0 : Int32)) hx hb dX3_howMany_2 (by decide) ?_
  refine lv_istore_n (lv' := [(3, .int (0 : Int32)), (2, .int (0 : Int32)), (0, .ref a_t), (1, .int p1)]) hx hb dX3_howMany_3 rfl hl (by decide) rfl (fun ls hl => ?_)
  exact L4 FU (0 : Int32) (0 : Int32) hf H locs ls hP hD hS (lv_sub hl [2, 3, 1, 0] rfl)
abbrev wd_X3_isWhole (E : EN) (a_t : Nat) (a_t_text : Nat) (w_t_weights : Value) (w_t_sightFrom : Value) (w_t_sightOut : Value) (x_t_places : Int32) (x_t_beginnings : Int32) (x_t_courtCount : Int32) (x_t_allowed : Int32) (x_t_sights : Int32) (x_t_kept : Int32) (x_t_text : Nat → Int32) : va_W := [(a_t, e_O 3 [.ref a_t_text, w_t_weights, w_t_sightFrom, w_t_sightOut, .int x_t_places, .int x_t_beginnings, .int x_t_courtCount, .int x_t_allowed, .int x_t_sights, .int x_t_kept]), (a_t_text, e_C E 40 x_t_text)]
def f_X3_isWhole (x_t_places : Int32) (x_t_text : Nat → Int32) : Option (Int32) :=
  Option.bind (f_X3_howMany (42 : Int32) x_t_places x_t_text) (fun r3 =>
  if r3 = 0 then
    Option.bind (f_X3_howMany (63 : Int32) x_t_places x_t_text) (fun r12 =>
    if r12 = 0 then
      some (1 : Int32)
    else
      some (0 : Int32))
  else
    some (0 : Int32))
set_option maxHeartbeats 4000000 in
set_option maxRecDepth 100000 in
theorem c_X3_isWhole (l : Launch) (E : EN) (a_t a_t_text : Nat) (w_t_weights : Value) (w_t_sightFrom : Value) (w_t_sightOut : Value) (x_t_places : Int32) (x_t_beginnings : Int32) (x_t_courtCount : Int32) (x_t_allowed : Int32) (x_t_sights : Int32) (x_t_kept : Int32) (x_t_text : Nat → Int32)  (res : Int32) (hf : f_X3_isWhole x_t_places x_t_text = some res) : CtI l yX3_isWhole cX3_isWhole 1 .boolean 1 23 E [.ref a_t] (wd_X3_isWhole E a_t a_t_text w_t_weights w_t_sightFrom w_t_sightOut x_t_places x_t_beginnings x_t_courtCount x_t_allowed x_t_sights x_t_kept x_t_text) (wd_X3_isWhole E a_t a_t_text w_t_weights w_t_sightFrom w_t_sightOut x_t_places x_t_beginnings x_t_courtCount x_t_allowed x_t_sights x_t_kept x_t_text) res := by
  refine CtI.of RX3 (by decide) rfl (Nat.le_of_ble_eq_true rfl) ?_
  intro p e s m below meth c A Q ls X hA hP hD hl fin
  have hx := X.1
  have hb := X.2.1
  have hl : lv_has ls 1 [(0, .ref a_t)] := hl
  have fin' : ∀ (fr0 : Int32), some fr0 = some res → ∀ (pc : Nat) (ls : Array Slot) (H : Heap) (locs : List Loc), decode cX3_isWhole pc = .ok (.ireturn, 1) → narrow .boolean (.int fr0) = .int fr0 → va_P E.1 vwCl (wd_X3_isWhole E a_t a_t_text w_t_weights w_t_sightFrom w_t_sightOut x_t_places x_t_beginnings x_t_courtCount x_t_allowed x_t_sights x_t_kept x_t_text) H → va_D A (wd_X3_isWhole E a_t a_t_text w_t_weights w_t_sightFrom w_t_sightOut x_t_places x_t_beginnings x_t_courtCount x_t_allowed x_t_sights x_t_kept x_t_text) → va_S A s.heap H locs → W p l e (rmm 1 23) s m ([.ref a_t] : List Value).toArray below meth c H locs 0 0 Q (F0 m pc ls [.int fr0]) := by
    intro fr0 he
    cases he
    exact fin
  have hS : va_S A s.heap s.heap [] := va_S.rf
  obtain ⟨H, hH9⟩ : ∃ z, z = s.heap := ⟨_, rfl⟩
  obtain ⟨locs, hL9⟩ : ∃ z : List Loc, z = [] := ⟨_, rfl⟩
  rw [← hL9]
  rw [← hL9] at hS
  have hP : va_P E.1 vwCl (wd_X3_isWhole E a_t a_t_text w_t_weights w_t_sightFrom w_t_sightOut x_t_places x_t_beginnings x_t_courtCount x_t_allowed x_t_sights x_t_kept x_t_text) H := by rw [hH9]; exact hP
  have hS : va_S A s.heap H locs := by rw [hH9]; exact hS
  suffices hgoal : W p l e (rmm 1 23) s m ([.ref a_t] : List Value).toArray below meth c H locs 0 0 Q (F0 m 0 ls []) by rw [hH9] at hgoal; exact hgoal
  rw [f_X3_isWhole] at hf
  refine lv_aload_n hx hb dX3_isWhole_0 rfl (lv_at hl 0 rfl) ?_
  refine lv_bipush (v := (42 : Int32)) hx hb dX3_isWhole_1 (by decide) ?_
  obtain ⟨r3, hc3, hf⟩ := bd_some hf
  refine cV_I X hA hP hD hS hl.1 (c_X3_howMany l E a_t a_t_text w_t_weights w_t_sightFrom w_t_sightOut x_t_places x_t_beginnings x_t_courtCount x_t_allowed x_t_sights x_t_kept x_t_text (42 : Int32) r3 hc3) 1 k_380 mw_X3_howMany hd_X3_howMany ⟨Nat.le_of_ble_eq_true rfl, Nat.le_of_ble_eq_true rfl⟩ [0, 1] [] [0, 1] rfl rfl (wr := []) rfl rfl rfl 3 0 rfl rfl rfl rfl rfl (Nat.le_of_ble_eq_true rfl) rfl (ws' := (wd_X3_isWhole E a_t a_t_text w_t_weights w_t_sightFrom w_t_sightOut x_t_places x_t_beginnings x_t_courtCount x_t_allowed x_t_sights x_t_kept x_t_text)) rfl ⟨Nat.le_of_ble_eq_true rfl, Nat.le_of_ble_eq_true rfl⟩ dX3_isWhole_3 (fun H locs hP hD hS => ?_)
  refine lv_if_ne (tgt := 22) hx hb dX3_isWhole_6 (by decide) (fun c_6 => ?_) (fun c_6 => ?_)
  · have hf := if_f c_6 hf
    refine lv_iconst (v := (0 : Int32)) hx hb dX3_isWhole_22 (by decide) ?_
    exact fin' _ hf 23 ls H locs dX3_isWhole_23 rfl hP hD hS
  · have hf := if_t c_6 hf
    refine lv_aload_n hx hb dX3_isWhole_9 rfl (lv_at hl 0 rfl) ?_
    refine lv_bipush (v := (63 : Int32)) hx hb dX3_isWhole_10 (by decide) ?_
    obtain ⟨r12, hc12, hf⟩ := bd_some hf
    refine cV_I X hA hP hD hS hl.1 (c_X3_howMany l E a_t a_t_text w_t_weights w_t_sightFrom w_t_sightOut x_t_places x_t_beginnings x_t_courtCount x_t_allowed x_t_sights x_t_kept x_t_text (63 : Int32) r12 hc12) 1 k_380 mw_X3_howMany hd_X3_howMany ⟨Nat.le_of_ble_eq_true rfl, Nat.le_of_ble_eq_true rfl⟩ [0, 1] [] [0, 1] rfl rfl (wr := []) rfl rfl rfl 3 0 rfl rfl rfl rfl rfl (Nat.le_of_ble_eq_true rfl) rfl (ws' := (wd_X3_isWhole E a_t a_t_text w_t_weights w_t_sightFrom w_t_sightOut x_t_places x_t_beginnings x_t_courtCount x_t_allowed x_t_sights x_t_kept x_t_text)) rfl ⟨Nat.le_of_ble_eq_true rfl, Nat.le_of_ble_eq_true rfl⟩ dX3_isWhole_12 (fun H locs hP hD hS => ?_)
    refine lv_if_ne (tgt := 22) hx hb dX3_isWhole_15 (by decide) (fun c_15 => ?_) (fun c_15 => ?_)
    · have hf := if_f c_15 hf
      refine lv_iconst (v := (0 : Int32)) hx hb dX3_isWhole_22 (by decide) ?_
      exact fin' _ hf 23 ls H locs dX3_isWhole_23 rfl hP hD hS
    · have hf := if_t c_15 hf
      refine lv_iconst (v := (1 : Int32)) hx hb dX3_isWhole_18 (by decide) ?_
      refine lv_goto (tgt := 23) hx hb dX3_isWhole_19 (by decide) ?_
      exact fin' _ hf 23 ls H locs dX3_isWhole_23 rfl hP hD hS
abbrev wd_X3_copy (E : EN) (a_t : Nat) (a_p1 : Nat) (a_p1_text : Nat) (a_t_text : Nat) (a_p1_weights : Nat) (a_t_weights : Nat) (a_p1_sightFrom : Nat) (a_t_sightFrom : Nat) (a_p1_sightOut : Nat) (a_t_sightOut : Nat) (x_t_places : Int32) (x_t_beginnings : Int32) (x_t_courtCount : Int32) (x_t_allowed : Int32) (x_t_sights : Int32) (x_t_kept : Int32) (x_p1_places : Int32) (x_p1_beginnings : Int32) (x_p1_courtCount : Int32) (x_p1_allowed : Int32) (x_p1_sights : Int32) (x_p1_kept : Int32) (x_p1_text : Nat → Int32) (x_t_text : Nat → Int32) (x_p1_weights : Nat → Int32) (x_t_weights : Nat → Int32) (x_p1_sightFrom : Nat → Int32) (x_t_sightFrom : Nat → Int32) (x_p1_sightOut : Nat → Int32) (x_t_sightOut : Nat → Int32) : va_W := [(a_t, e_O 3 [.ref a_t_text, .ref a_t_weights, .ref a_t_sightFrom, .ref a_t_sightOut, .int x_t_places, .int x_t_beginnings, .int x_t_courtCount, .int x_t_allowed, .int x_t_sights, .int x_t_kept]), (a_p1, e_O 3 [.ref a_p1_text, .ref a_p1_weights, .ref a_p1_sightFrom, .ref a_p1_sightOut, .int x_p1_places, .int x_p1_beginnings, .int x_p1_courtCount, .int x_p1_allowed, .int x_p1_sights, .int x_p1_kept]), (a_p1_text, e_C E 40 x_p1_text), (a_t_text, e_C E 40 x_t_text), (a_p1_weights, e_I E 11 x_p1_weights), (a_t_weights, e_I E 11 x_t_weights), (a_p1_sightFrom, e_I E 6 x_p1_sightFrom), (a_t_sightFrom, e_I E 6 x_t_sightFrom), (a_p1_sightOut, e_I E 6 x_p1_sightOut), (a_t_sightOut, e_I E 6 x_t_sightOut)]
def f_X3_copy (x_p1_places : Int32) (x_p1_beginnings : Int32) (x_p1_courtCount : Int32) (x_p1_allowed : Int32) (x_p1_sights : Int32) (x_p1_text : Nat → Int32) (x_t_text : Nat → Int32) (x_p1_weights : Nat → Int32) (x_t_weights : Nat → Int32) (x_p1_sightFrom : Nat → Int32) (x_t_sightFrom : Nat → Int32) (x_p1_sightOut : Nat → Int32) (x_t_sightOut : Nat → Int32) : Option (Int32 × Int32 × Int32 × Int32 × Int32 × (Nat → Int32) × (Nat → Int32) × (Nat → Int32) × (Nat → Int32)) :=
  ck (fitC x_p1_text (0 : Int32) (40 : Int32)) (
  some (x_p1_places, x_p1_beginnings, x_p1_courtCount, x_p1_allowed, x_p1_sights, (va_cpy x_p1_text x_t_text (ix (0 : Int32)) (ix (0 : Int32)) (ix (40 : Int32))), (va_cpy x_p1_weights x_t_weights (ix (0 : Int32)) (ix (0 : Int32)) (ix (11 : Int32))), (va_cpy x_p1_sightFrom x_t_sightFrom (ix (0 : Int32)) (ix (0 : Int32)) (ix (6 : Int32))), (va_cpy x_p1_sightOut x_t_sightOut (ix (0 : Int32)) (ix (0 : Int32)) (ix (6 : Int32)))))
set_option maxHeartbeats 4000000 in
set_option maxRecDepth 100000 in
theorem c_X3_copy (l : Launch) (E : EN) (a_t a_p1 a_p1_text a_t_text a_p1_weights a_t_weights a_p1_sightFrom a_t_sightFrom a_p1_sightOut a_t_sightOut : Nat) (x_t_places : Int32) (x_t_beginnings : Int32) (x_t_courtCount : Int32) (x_t_allowed : Int32) (x_t_sights : Int32) (x_t_kept : Int32) (x_p1_places : Int32) (x_p1_beginnings : Int32) (x_p1_courtCount : Int32) (x_p1_allowed : Int32) (x_p1_sights : Int32) (x_p1_kept : Int32) (x_p1_text : Nat → Int32) (x_t_text : Nat → Int32) (x_p1_weights : Nat → Int32) (x_t_weights : Nat → Int32) (x_p1_sightFrom : Nat → Int32) (x_t_sightFrom : Nat → Int32) (x_p1_sightOut : Nat → Int32) (x_t_sightOut : Nat → Int32)  (res : Int32 × Int32 × Int32 × Int32 × Int32 × (Nat → Int32) × (Nat → Int32) × (Nat → Int32) × (Nat → Int32)) (hf : f_X3_copy x_p1_places x_p1_beginnings x_p1_courtCount x_p1_allowed x_p1_sights x_p1_text x_t_text x_p1_weights x_t_weights x_p1_sightFrom x_t_sightFrom x_p1_sightOut x_t_sightOut = some res) : CtV l yX3_copy cX3_copy 2 1 60 E [.ref a_t, .ref a_p1] (wd_X3_copy E a_t a_p1 a_p1_text a_t_text a_p1_weights a_t_weights a_p1_sightFrom a_t_sightFrom a_p1_sightOut a_t_sightOut x_t_places x_t_beginnings x_t_courtCount x_t_allowed x_t_sights x_t_kept x_p1_places x_p1_beginnings x_p1_courtCount x_p1_allowed x_p1_sights x_p1_kept x_p1_text x_t_text x_p1_weights x_t_weights x_p1_sightFrom x_t_sightFrom x_p1_sightOut x_t_sightOut) (wd_X3_copy E a_t a_p1 a_p1_text a_t_text a_p1_weights a_t_weights a_p1_sightFrom a_t_sightFrom a_p1_sightOut a_t_sightOut res.1 res.2.1 res.2.2.1 res.2.2.2.1 res.2.2.2.2.1 x_t_kept x_p1_places x_p1_beginnings x_p1_courtCount x_p1_allowed x_p1_sights x_p1_kept x_p1_text res.2.2.2.2.2.1 x_p1_weights res.2.2.2.2.2.2.1 x_p1_sightFrom res.2.2.2.2.2.2.2.1 x_p1_sightOut res.2.2.2.2.2.2.2.2) := by
  refine CtV.of RX3 (by decide) rfl (Nat.le_of_ble_eq_true rfl) ?_
  intro p e s m below meth c A Q ls X hA hP hD hl fin
  have hx := X.1
  have hb := X.2.1
  have hl : lv_has ls 2 [(0, .ref a_t), (1, .ref a_p1)] := hl
  have fin' : ∀ (fr0 : Int32) (fr1 : Int32) (fr2 : Int32) (fr3 : Int32) (fr4 : Int32) (fr5 : (Nat → Int32)) (fr6 : (Nat → Int32)) (fr7 : (Nat → Int32)) (fr8 : (Nat → Int32)), some (fr0, fr1, fr2, fr3, fr4, fr5, fr6, fr7, fr8) = some res → ∀ (pc : Nat) (ls : Array Slot) (H : Heap) (locs : List Loc), decode cX3_copy pc = .ok (.return_, 1) → va_P E.1 vwCl (wd_X3_copy E a_t a_p1 a_p1_text a_t_text a_p1_weights a_t_weights a_p1_sightFrom a_t_sightFrom a_p1_sightOut a_t_sightOut fr0 fr1 fr2 fr3 fr4 x_t_kept x_p1_places x_p1_beginnings x_p1_courtCount x_p1_allowed x_p1_sights x_p1_kept x_p1_text fr5 x_p1_weights fr6 x_p1_sightFrom fr7 x_p1_sightOut fr8) H → va_D A (wd_X3_copy E a_t a_p1 a_p1_text a_t_text a_p1_weights a_t_weights a_p1_sightFrom a_t_sightFrom a_p1_sightOut a_t_sightOut fr0 fr1 fr2 fr3 fr4 x_t_kept x_p1_places x_p1_beginnings x_p1_courtCount x_p1_allowed x_p1_sights x_p1_kept x_p1_text fr5 x_p1_weights fr6 x_p1_sightFrom fr7 x_p1_sightOut fr8) → va_S A s.heap H locs → W p l e (rmm 1 60) s m ([.ref a_t, .ref a_p1] : List Value).toArray below meth c H locs 0 0 Q (F0 m pc ls []) := by
    intro fr0 fr1 fr2 fr3 fr4 fr5 fr6 fr7 fr8 he
    cases he
    exact fin
  have hS : va_S A s.heap s.heap [] := va_S.rf
  obtain ⟨H, hH9⟩ : ∃ z, z = s.heap := ⟨_, rfl⟩
  obtain ⟨locs, hL9⟩ : ∃ z : List Loc, z = [] := ⟨_, rfl⟩
  rw [← hL9]
  rw [← hL9] at hS
  have hP : va_P E.1 vwCl (wd_X3_copy E a_t a_p1 a_p1_text a_t_text a_p1_weights a_t_weights a_p1_sightFrom a_t_sightFrom a_p1_sightOut a_t_sightOut x_t_places x_t_beginnings x_t_courtCount x_t_allowed x_t_sights x_t_kept x_p1_places x_p1_beginnings x_p1_courtCount x_p1_allowed x_p1_sights x_p1_kept x_p1_text x_t_text x_p1_weights x_t_weights x_p1_sightFrom x_t_sightFrom x_p1_sightOut x_t_sightOut) H := by rw [hH9]; exact hP
  have hS : va_S A s.heap H locs := by rw [hH9]; exact hS
  suffices hgoal : W p l e (rmm 1 60) s m ([.ref a_t, .ref a_p1] : List Value).toArray below meth c H locs 0 0 Q (F0 m 0 ls []) by rw [hH9] at hgoal; exact hgoal
  rw [f_X3_copy] at hf
  refine lv_aload_n hx hb dX3_copy_0 rfl (lv_at hl 1 rfl) ?_
  refine gf_X3_9 X hP 1 rfl rfl dX3_copy_1 ?_
  refine lv_iconst (v := (0 : Int32)) hx hb dX3_copy_4 (by decide) ?_
  refine lv_aload_n hx hb dX3_copy_5 rfl (lv_at hl 0 rfl) ?_
  refine gf_X3_9 X hP 0 rfl rfl dX3_copy_6 ?_
  refine lv_iconst (v := (0 : Int32)) hx hb dX3_copy_9 (by decide) ?_
  refine lv_bipush (v := (40 : Int32)) hx hb dX3_copy_10 (by decide) ?_
  obtain ⟨hg12, hf⟩ := ck_some hf
  refine r_copyC X hl.1 k_338 hP hD hS 2 3 rfl rfl (by decide) hg12 (Nat.le_of_ble_eq_true rfl) (Nat.le_of_ble_eq_true rfl) (ws' := (wd_X3_copy E a_t a_p1 a_p1_text a_t_text a_p1_weights a_t_weights a_p1_sightFrom a_t_sightFrom a_p1_sightOut a_t_sightOut x_t_places x_t_beginnings x_t_courtCount x_t_allowed x_t_sights x_t_kept x_p1_places x_p1_beginnings x_p1_courtCount x_p1_allowed x_p1_sights x_p1_kept x_p1_text (va_cpy x_p1_text x_t_text (ix (0 : Int32)) (ix (0 : Int32)) (ix (40 : Int32))) x_p1_weights x_t_weights x_p1_sightFrom x_t_sightFrom x_p1_sightOut x_t_sightOut)) rfl dX3_copy_12 (fun H locs hP hD hS => ?_)
  refine lv_aload_n hx hb dX3_copy_15 rfl (lv_at hl 1 rfl) ?_
  refine gf_X3_15 X hP 1 rfl rfl dX3_copy_16 ?_
  refine lv_iconst (v := (0 : Int32)) hx hb dX3_copy_19 (by decide) ?_
  refine lv_aload_n hx hb dX3_copy_20 rfl (lv_at hl 0 rfl) ?_
  refine gf_X3_15 X hP 0 rfl rfl dX3_copy_21 ?_
  refine lv_iconst (v := (0 : Int32)) hx hb dX3_copy_24 (by decide) ?_
  refine lv_bipush (v := (11 : Int32)) hx hb dX3_copy_25 (by decide) ?_
  refine r_copyI X hl.1 k_338 hP hD hS 4 5 rfl rfl (by decide) (Nat.le_of_ble_eq_true rfl) (Nat.le_of_ble_eq_true rfl) (ws' := (wd_X3_copy E a_t a_p1 a_p1_text a_t_text a_p1_weights a_t_weights a_p1_sightFrom a_t_sightFrom a_p1_sightOut a_t_sightOut x_t_places x_t_beginnings x_t_courtCount x_t_allowed x_t_sights x_t_kept x_p1_places x_p1_beginnings x_p1_courtCount x_p1_allowed x_p1_sights x_p1_kept x_p1_text (va_cpy x_p1_text x_t_text (ix (0 : Int32)) (ix (0 : Int32)) (ix (40 : Int32))) x_p1_weights (va_cpy x_p1_weights x_t_weights (ix (0 : Int32)) (ix (0 : Int32)) (ix (11 : Int32))) x_p1_sightFrom x_t_sightFrom x_p1_sightOut x_t_sightOut)) rfl dX3_copy_27 (fun H locs hP hD hS => ?_)
  refine lv_aload_n hx hb dX3_copy_30 rfl (lv_at hl 1 rfl) ?_
  refine gf_X3_19 X hP 1 rfl rfl dX3_copy_31 ?_
  refine lv_iconst (v := (0 : Int32)) hx hb dX3_copy_34 (by decide) ?_
  refine lv_aload_n hx hb dX3_copy_35 rfl (lv_at hl 0 rfl) ?_
  refine gf_X3_19 X hP 0 rfl rfl dX3_copy_36 ?_
  refine lv_iconst (v := (0 : Int32)) hx hb dX3_copy_39 (by decide) ?_
  refine lv_bipush (v := (6 : Int32)) hx hb dX3_copy_40 (by decide) ?_
  refine r_copyI X hl.1 k_338 hP hD hS 6 7 rfl rfl (by decide) (Nat.le_of_ble_eq_true rfl) (Nat.le_of_ble_eq_true rfl) (ws' := (wd_X3_copy E a_t a_p1 a_p1_text a_t_text a_p1_weights a_t_weights a_p1_sightFrom a_t_sightFrom a_p1_sightOut a_t_sightOut x_t_places x_t_beginnings x_t_courtCount x_t_allowed x_t_sights x_t_kept x_p1_places x_p1_beginnings x_p1_courtCount x_p1_allowed x_p1_sights x_p1_kept x_p1_text (va_cpy x_p1_text x_t_text (ix (0 : Int32)) (ix (0 : Int32)) (ix (40 : Int32))) x_p1_weights (va_cpy x_p1_weights x_t_weights (ix (0 : Int32)) (ix (0 : Int32)) (ix (11 : Int32))) x_p1_sightFrom (va_cpy x_p1_sightFrom x_t_sightFrom (ix (0 : Int32)) (ix (0 : Int32)) (ix (6 : Int32))) x_p1_sightOut x_t_sightOut)) rfl dX3_copy_42 (fun H locs hP hD hS => ?_)
  refine lv_aload_n hx hb dX3_copy_45 rfl (lv_at hl 1 rfl) ?_
  refine gf_X3_22 X hP 1 rfl rfl dX3_copy_46 ?_
  refine lv_iconst (v := (0 : Int32)) hx hb dX3_copy_49 (by decide) ?_
  refine lv_aload_n hx hb dX3_copy_50 rfl (lv_at hl 0 rfl) ?_
  refine gf_X3_22 X hP 0 rfl rfl dX3_copy_51 ?_
  refine lv_iconst (v := (0 : Int32)) hx hb dX3_copy_54 (by decide) ?_
  refine lv_bipush (v := (6 : Int32)) hx hb dX3_copy_55 (by decide) ?_
  refine r_copyI X hl.1 k_338 hP hD hS 8 9 rfl rfl (by decide) (Nat.le_of_ble_eq_true rfl) (Nat.le_of_ble_eq_true rfl) (ws' := (wd_X3_copy E a_t a_p1 a_p1_text a_t_text a_p1_weights a_t_weights a_p1_sightFrom a_t_sightFrom a_p1_sightOut a_t_sightOut x_t_places x_t_beginnings x_t_courtCount x_t_allowed x_t_sights x_t_kept x_p1_places x_p1_beginnings x_p1_courtCount x_p1_allowed x_p1_sights x_p1_kept x_p1_text (va_cpy x_p1_text x_t_text (ix (0 : Int32)) (ix (0 : Int32)) (ix (40 : Int32))) x_p1_weights (va_cpy x_p1_weights x_t_weights (ix (0 : Int32)) (ix (0 : Int32)) (ix (11 : Int32))) x_p1_sightFrom (va_cpy x_p1_sightFrom x_t_sightFrom (ix (0 : Int32)) (ix (0 : Int32)) (ix (6 : Int32))) x_p1_sightOut (va_cpy x_p1_sightOut x_t_sightOut (ix (0 : Int32)) (ix (0 : Int32)) (ix (6 : Int32))))) rfl dX3_copy_57 (fun H locs hP hD hS => ?_)
  refine lv_aload_n hx hb dX3_copy_60 rfl (lv_at hl 0 rfl) ?_
  refine lv_aload_n hx hb dX3_copy_61 rfl (lv_at hl 1 rfl) ?_
  refine gf_X3_25 X hP 1 rfl rfl dX3_copy_62 ?_
  refine pf_X3_25 X hP hD hS 0 rfl (Nat.le_of_ble_eq_true rfl) (ws' := (wd_X3_copy E a_t a_p1 a_p1_text a_t_text a_p1_weights a_t_weights a_p1_sightFrom a_t_sightFrom a_p1_sightOut a_t_sightOut x_p1_places x_t_beginnings x_t_courtCount x_t_allowed x_t_sights x_t_kept x_p1_places x_p1_beginnings x_p1_courtCount x_p1_allowed x_p1_sights x_p1_kept x_p1_text (va_cpy x_p1_text x_t_text (ix (0 : Int32)) (ix (0 : Int32)) (ix (40 : Int32))) x_p1_weights (va_cpy x_p1_weights x_t_weights (ix (0 : Int32)) (ix (0 : Int32)) (ix (11 : Int32))) x_p1_sightFrom (va_cpy x_p1_sightFrom x_t_sightFrom (ix (0 : Int32)) (ix (0 : Int32)) (ix (6 : Int32))) x_p1_sightOut (va_cpy x_p1_sightOut x_t_sightOut (ix (0 : Int32)) (ix (0 : Int32)) (ix (6 : Int32))))) rfl dX3_copy_65 (fun H locs hP hD hS => ?_)
  refine lv_aload_n hx hb dX3_copy_68 rfl (lv_at hl 0 rfl) ?_
  refine lv_aload_n hx hb dX3_copy_69 rfl (lv_at hl 1 rfl) ?_
  refine gf_X3_29 X hP 1 rfl rfl dX3_copy_70 ?_
  refine pf_X3_29 X hP hD hS 0 rfl (Nat.le_of_ble_eq_true rfl) (ws' := (wd_X3_copy E a_t a_p1 a_p1_text a_t_text a_p1_weights a_t_weights a_p1_sightFrom a_t_sightFrom a_p1_sightOut a_t_sightOut x_p1_places x_p1_beginnings x_t_courtCount x_t_allowed x_t_sights x_t_kept x_p1_places x_p1_beginnings x_p1_courtCount x_p1_allowed x_p1_sights x_p1_kept x_p1_text (va_cpy x_p1_text x_t_text (ix (0 : Int32)) (ix (0 : Int32)) (ix (40 : Int32))) x_p1_weights (va_cpy x_p1_weights x_t_weights (ix (0 : Int32)) (ix (0 : Int32)) (ix (11 : Int32))) x_p1_sightFrom (va_cpy x_p1_sightFrom x_t_sightFrom (ix (0 : Int32)) (ix (0 : Int32)) (ix (6 : Int32))) x_p1_sightOut (va_cpy x_p1_sightOut x_t_sightOut (ix (0 : Int32)) (ix (0 : Int32)) (ix (6 : Int32))))) rfl dX3_copy_73 (fun H locs hP hD hS => ?_)
  refine lv_aload_n hx hb dX3_copy_76 rfl (lv_at hl 0 rfl) ?_
  refine lv_aload_n hx hb dX3_copy_77 rfl (lv_at hl 1 rfl) ?_
  refine gf_X3_32 X hP 1 rfl rfl dX3_copy_78 ?_
  refine pf_X3_32 X hP hD hS 0 rfl (Nat.le_of_ble_eq_true rfl) (ws' := (wd_X3_copy E a_t a_p1 a_p1_text a_t_text a_p1_weights a_t_weights a_p1_sightFrom a_t_sightFrom a_p1_sightOut a_t_sightOut x_p1_places x_p1_beginnings x_p1_courtCount x_t_allowed x_t_sights x_t_kept x_p1_places x_p1_beginnings x_p1_courtCount x_p1_allowed x_p1_sights x_p1_kept x_p1_text (va_cpy x_p1_text x_t_text (ix (0 : Int32)) (ix (0 : Int32)) (ix (40 : Int32))) x_p1_weights (va_cpy x_p1_weights x_t_weights (ix (0 : Int32)) (ix (0 : Int32)) (ix (11 : Int32))) x_p1_sightFrom (va_cpy x_p1_sightFrom x_t_sightFrom (ix (0 : Int32)) (ix (0 : Int32)) (ix (6 : Int32))) x_p1_sightOut (va_cpy x_p1_sightOut x_t_sightOut (ix (0 : Int32)) (ix (0 : Int32)) (ix (6 : Int32))))) rfl dX3_copy_81 (fun H locs hP hD hS => ?_)
  refine lv_aload_n hx hb dX3_copy_84 rfl (lv_at hl 0 rfl) ?_
  refine lv_aload_n hx hb dX3_copy_85 rfl (lv_at hl 1 rfl) ?_
  refine gf_X3_35 X hP 1 rfl rfl dX3_copy_86 ?_
  refine pf_X3_35 X hP hD hS 0 rfl (Nat.le_of_ble_eq_true rfl) (ws' := (wd_X3_copy E a_t a_p1 a_p1_text a_t_text a_p1_weights a_t_weights a_p1_sightFrom a_t_sightFrom a_p1_sightOut a_t_sightOut x_p1_places x_p1_beginnings x_p1_courtCount x_p1_allowed x_t_sights x_t_kept x_p1_places x_p1_beginnings x_p1_courtCount x_p1_allowed x_p1_sights x_p1_kept x_p1_text (va_cpy x_p1_text x_t_text (ix (0 : Int32)) (ix (0 : Int32)) (ix (40 : Int32))) x_p1_weights (va_cpy x_p1_weights x_t_weights (ix (0 : Int32)) (ix (0 : Int32)) (ix (11 : Int32))) x_p1_sightFrom (va_cpy x_p1_sightFrom x_t_sightFrom (ix (0 : Int32)) (ix (0 : Int32)) (ix (6 : Int32))) x_p1_sightOut (va_cpy x_p1_sightOut x_t_sightOut (ix (0 : Int32)) (ix (0 : Int32)) (ix (6 : Int32))))) rfl dX3_copy_89 (fun H locs hP hD hS => ?_)
  refine lv_aload_n hx hb dX3_copy_92 rfl (lv_at hl 0 rfl) ?_
  refine lv_aload_n hx hb dX3_copy_93 rfl (lv_at hl 1 rfl) ?_
  refine gf_X3_38 X hP 1 rfl rfl dX3_copy_94 ?_
  refine pf_X3_38 X hP hD hS 0 rfl (Nat.le_of_ble_eq_true rfl) (ws' := (wd_X3_copy E a_t a_p1 a_p1_text a_t_text a_p1_weights a_t_weights a_p1_sightFrom a_t_sightFrom a_p1_sightOut a_t_sightOut x_p1_places x_p1_beginnings x_p1_courtCount x_p1_allowed x_p1_sights x_t_kept x_p1_places x_p1_beginnings x_p1_courtCount x_p1_allowed x_p1_sights x_p1_kept x_p1_text (va_cpy x_p1_text x_t_text (ix (0 : Int32)) (ix (0 : Int32)) (ix (40 : Int32))) x_p1_weights (va_cpy x_p1_weights x_t_weights (ix (0 : Int32)) (ix (0 : Int32)) (ix (11 : Int32))) x_p1_sightFrom (va_cpy x_p1_sightFrom x_t_sightFrom (ix (0 : Int32)) (ix (0 : Int32)) (ix (6 : Int32))) x_p1_sightOut (va_cpy x_p1_sightOut x_t_sightOut (ix (0 : Int32)) (ix (0 : Int32)) (ix (6 : Int32))))) rfl dX3_copy_97 (fun H locs hP hD hS => ?_)
  exact fin' _ _ _ _ _ _ _ _ _ hf 100 ls H locs dX3_copy_100 hP hD hS
