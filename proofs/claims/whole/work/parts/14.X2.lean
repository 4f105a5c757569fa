abbrev wd_X2_read (E : EN) (a_t : Nat) (a_p1 : Nat) (a_p2 : Nat) (a_t_counts : Nat) (w_t_ends : Value) (w_t_comers : Value) (w_t_leaders : Value) (w_t_chains : Value) (x_t_places : Int32) (x_t_beginnings : Int32) (x_p1 : Nat → Int32) (w_p2_text : Value) (w_p2_weights : Value) (w_p2_sightFrom : Value) (w_p2_sightOut : Value) (x_p2_places : Int32) (x_p2_beginnings : Int32) (x_p2_courtCount : Int32) (x_p2_allowed : Int32) (x_p2_sights : Int32) (x_p2_kept : Int32) (x_t_counts : Nat → Int32) : va_W := [(a_t, e_O 2 [.ref a_t_counts, w_t_ends, w_t_comers, w_t_leaders, w_t_chains, .int x_t_places, .int x_t_beginnings]), (a_p1, e_C E 40 x_p1), (a_p2, e_O 3 [w_p2_text, w_p2_weights, w_p2_sightFrom, w_p2_sightOut, .int x_p2_places, .int x_p2_beginnings, .int x_p2_courtCount, .int x_p2_allowed, .int x_p2_sights, .int x_p2_kept]), (a_t_counts, e_I E 40 x_t_counts)]
def f_X2_read_19 (p3 : Int32) (x_p1 : Nat → Int32)  : Nat → Int32 → Int32 → Int32 → (Nat → Int32) → Option (Int32 × Int32 × (Nat → Int32))
  | 0, _, _, _, _ => none
  | n_ + 1, v4, m_t_places, m_t_beginnings, m_t_counts =>
    if m_t_places ≤ v4 then
      some (m_t_places, m_t_beginnings, m_t_counts)
    else
      ck (inB v4 40) (
      Option.bind (f_X5_countOf (x_p1 (ix v4)) p3) (fun r39 =>
      f_X2_read_19 p3 x_p1 n_ (v4 + (1 : Int32)) m_t_places m_t_beginnings (upd m_t_counts (ix v4) r39)))
def f_X2_read (p3 : Int32) (x_p1 : Nat → Int32) (x_p2_places : Int32) (x_p2_beginnings : Int32) (x_t_counts : Nat → Int32) : Option (Int32 × Int32 × (Nat → Int32)) :=
  f_X2_read_19 p3 x_p1 FU (0 : Int32) x_p2_places x_p2_beginnings x_t_counts
set_option maxHeartbeats 4000000 in
set_option maxRecDepth 100000 in
theorem c_X2_read (l : Launch) (E : EN) (a_t a_p1 a_p2 a_t_counts : Nat) (w_t_ends : Value) (w_t_comers : Value) (w_t_leaders : Value) (w_t_chains : Value) (x_t_places : Int32) (x_t_beginnings : Int32) (x_p1 : Nat → Int32) (w_p2_text : Value) (w_p2_weights : Value) (w_p2_sightFrom : Value) (w_p2_sightOut : Value) (x_p2_places : Int32) (x_p2_beginnings : Int32) (x_p2_courtCount : Int32) (x_p2_allowed : Int32) (x_p2_sights : Int32) (x_p2_kept : Int32) (x_t_counts : Nat → Int32) (p3 : Int32) (res : Int32 × Int32 × (Nat → Int32)) (hf : f_X2_read p3 x_p1 x_p2_places x_p2_beginnings x_t_counts = some res) : CtV l yX2_read cX2_read 5 1 21 E [.ref a_t, .ref a_p1, .ref a_p2, .int p3] (wd_X2_read E a_t a_p1 a_p2 a_t_counts w_t_ends w_t_comers w_t_leaders w_t_chains x_t_places x_t_beginnings x_p1 w_p2_text w_p2_weights w_p2_sightFrom w_p2_sightOut x_p2_places x_p2_beginnings x_p2_courtCount x_p2_allowed x_p2_sights x_p2_kept x_t_counts) (wd_X2_read E a_t a_p1 a_p2 a_t_counts w_t_ends w_t_comers w_t_leaders w_t_chains res.1 res.2.1 x_p1 w_p2_text w_p2_weights w_p2_sightFrom w_p2_sightOut x_p2_places x_p2_beginnings x_p2_courtCount x_p2_allowed x_p2_sights x_p2_kept res.2.2) := by
  refine CtV.of RX2 (by decide) rfl (Nat.le_of_ble_eq_true rfl) ?_
  intro p e s m below meth c A Q ls X hA hP hD hl fin
  have hx := X.1
  have hb := X.2.1
  have hl : lv_has ls 5 [(0, .ref a_t), (1, .ref a_p1), (2, .ref a_p2), (3, .int p3)] := hl
  have fin' : ∀ (fr0 : Int32) (fr1 : Int32) (fr2 : (Nat → Int32)), some (fr0, fr1, fr2) = some res → ∀ (pc : Nat) (ls : Array Slot) (H : Heap) (locs : List Loc), decode cX2_read pc = .ok (.return_, 1) → va_P E.1 vwCl (wd_X2_read E a_t a_p1 a_p2 a_t_counts w_t_ends w_t_comers w_t_leaders w_t_chains fr0 fr1 x_p1 w_p2_text w_p2_weights w_p2_sightFrom w_p2_sightOut x_p2_places x_p2_beginnings x_p2_courtCount x_p2_allowed x_p2_sights x_p2_kept fr2) H → va_D A (wd_X2_read E a_t a_p1 a_p2 a_t_counts w_t_ends w_t_comers w_t_leaders w_t_chains fr0 fr1 x_p1 w_p2_text w_p2_weights w_p2_sightFrom w_p2_sightOut x_p2_places x_p2_beginnings x_p2_courtCount x_p2_allowed x_p2_sights x_p2_kept fr2) → va_S A s.heap H locs → W p l e (rmm 1 21) s m ([.ref a_t, .ref a_p1, .ref a_p2, .int p3] : List Value).toArray below meth c H locs 0 0 Q (F0 m pc ls []) := by
    intro fr0 fr1 fr2 he
    cases he
    exact fin
  have L19 : ∀ (n19 : Nat) (v4 : Int32) (m_t_places : Int32) (m_t_beginnings : Int32) (m_t_counts : Nat → Int32), f_X2_read_19 p3 x_p1 n19 v4 m_t_places m_t_beginnings m_t_counts = some res → ∀ (H : Heap) (locs : List Loc) (ls : Array Slot), va_P E.1 vwCl (wd_X2_read E a_t a_p1 a_p2 a_t_counts w_t_ends w_t_comers w_t_leaders w_t_chains m_t_places m_t_beginnings x_p1 w_p2_text w_p2_weights w_p2_sightFrom w_p2_sightOut x_p2_places x_p2_beginnings x_p2_courtCount x_p2_allowed x_p2_sights x_p2_kept m_t_counts) H → va_D A (wd_X2_read E a_t a_p1 a_p2 a_t_counts w_t_ends w_t_comers w_t_leaders w_t_chains m_t_places m_t_beginnings x_p1 w_p2_text w_p2_weights w_p2_sightFrom w_p2_sightOut x_p2_places x_p2_beginnings x_p2_courtCount x_p2_allowed x_p2_sights x_p2_kept m_t_counts) → va_S A s.heap H locs → lv_has ls 5 [(0, .ref a_t), (1, .ref a_p1), (3, .int p3), (4, .int v4)] → W p l e (rmm 1 21) s m ([.ref a_t, .ref a_p1, .ref a_p2, .int p3] : List Value).toArray below meth c H locs 0 0 Q (F0 m 19 ls []) := by
    intro n19
    induction n19 with
    | zero => intro v4 m_t_places m_t_beginnings m_t_counts hf; rw [f_X2_read_19] at hf; cases hf
    | succ n19 ih19 =>
      intro v4 m_t_places m_t_beginnings m_t_counts hf H locs ls hP hD hS hl
      rw [f_X2_read_19] at hf
      refine lv_iload hx hb dX2_read_19 (lv_at hl 3 rfl) ?_
      refine lv_aload_n hx hb dX2_read_21 rfl (lv_at hl 0 rfl) ?_
      refine gf_X2_33 X hP 0 rfl rfl dX2_read_22 ?_
      refine lv_icmp_ge (tgt := 49) hx hb dX2_read_25 (by decide) (fun c_25 => ?_) (fun c_25 => ?_)
      · have hf := if_t c_25 hf
        exact fin' _ _ _ hf 49 ls H locs dX2_read_49 hP hD hS
      · have hf := if_f c_25 hf
        refine lv_aload_n hx hb dX2_read_28 rfl (lv_at hl 0 rfl) ?_
        refine gf_X2_9 X hP 0 rfl rfl dX2_read_29 ?_
        refine lv_iload hx hb dX2_read_32 (lv_at hl 3 rfl) ?_
        refine lv_aload_n hx hb dX2_read_34 rfl (lv_at hl 1 rfl) ?_
        refine lv_iload hx hb dX2_read_35 (lv_at hl 3 rfl) ?_
        obtain ⟨hi37, hf⟩ := ck_some hf
        refine r_cald X hP 1 rfl hi37 dX2_read_37 ?_
        refine lv_iload_n hx hb dX2_read_38 rfl (lv_at hl 2 rfl) ?_
        obtain ⟨r39, hc39, hf⟩ := bd_some hf
        refine cN_I X hA hP hD hS hl.1 (c_X5_countOf l E (x_p1 (ix v4)) p3 r39 hc39) 2 X.2.2.2.2.2.2.1 mw_X5_countOf hd_X5_countOf ⟨Nat.le_of_ble_eq_true rfl, Nat.le_of_ble_eq_true rfl⟩ [] [0, 1, 2, 3] [0, 1, 2, 3] rfl rfl (wr := [0, 1, 2, 3].filterMap (fun i => (wd_X2_read E a_t a_p1 a_p2 a_t_counts w_t_ends w_t_comers w_t_leaders w_t_chains m_t_places m_t_beginnings x_p1 w_p2_text w_p2_weights w_p2_sightFrom w_p2_sightOut x_p2_places x_p2_beginnings x_p2_courtCount x_p2_allowed x_p2_sights x_p2_kept m_t_counts)[i]?)) rfl rfl rfl rfl rfl (Nat.le_of_ble_eq_true rfl) rfl (ws' := (wd_X2_read E a_t a_p1 a_p2 a_t_counts w_t_ends w_t_comers w_t_leaders w_t_chains m_t_places m_t_beginnings x_p1 w_p2_text w_p2_weights w_p2_sightFrom w_p2_sightOut x_p2_places x_p2_beginnings x_p2_courtCount x_p2_allowed x_p2_sights x_p2_kept m_t_counts)) rfl ⟨Nat.le_of_ble_eq_true rfl, Nat.le_of_ble_eq_true rfl⟩ dX2_read_39 (fun H locs hP hD hS => ?_)
        refine r_iast X hP hD hS 3 rfl hi37 (ws' := (wd_X2_read E a_t a_p1 a_p2 a_t_counts w_t_ends w_t_comers w_t_leaders w_t_chains m_t_places m_t_beginnings x_p1 w_p2_text w_p2_weights w_p2_sightFrom w_p2_sightOut x_p2_places x_p2_beginnings x_p2_courtCount x_p2_allowed x_p2_sights x_p2_kept (upd m_t_counts (ix v4) r39))) rfl dX2_read_42 (fun H locs hP hD hS => ?_)
        refine lv_iinc (v := (v4 + (1 : Int32))) (lv' := [(4, .int (v4 + (1 : Int32))), (0, .ref a_t), (1, .ref a_p1), (3, .int p3)]) hx hb dX2_read_43 hl (k := 3) rfl rfl (by decide) rfl (fun ls hl => ?_)
        refine lv_goto (tgt := 19) hx hb dX2_read_46 (by decide) ?_
        exact ih19 (v4 + (1 : Int32)) m_t_places m_t_beginnings (upd m_t_counts (ix v4) r39) hf H locs ls hP hD hS (lv_sub hl [1, 2, 3, 0] rfl)
  have hS : va_S A s.heap s.heap [] := va_S.rf
  obtain ⟨H, hH9⟩ : ∃ z, z = s.heap := ⟨_, rfl⟩
  obtain ⟨locs, hL9⟩ : ∃ z : List Loc, z = [] := ⟨_, rfl⟩
  rw [← hL9]
  rw [← hL9] at hS
  have hP : va_P E.1 vwCl (wd_X2_read E a_t a_p1 a_p2 a_t_counts w_t_ends w_t_comers w_t_leaders w_t_chains x_t_places x_t_beginnings x_p1 w_p2_text w_p2_weights w_p2_sightFrom w_p2_sightOut x_p2_places x_p2_beginnings x_p2_courtCount x_p2_allowed x_p2_sights x_p2_kept x_t_counts) H := by rw [hH9]; exact hP
  have hS : va_S A s.heap H locs := by rw [hH9]; exact hS
  suffices hgoal : W p l e (rmm 1 21) s m ([.ref a_t, .ref a_p1, .ref a_p2, .int p3] : List Value).toArray below meth c H locs 0 0 Q (F0 m 0 ls []) by rw [hH9] at hgoal; exact hgoal
  rw [f_X2_read] at hf
  refine lv_aload_n hx hb dX2_read_0 rfl (lv_at hl 0 rfl) ?_
  refine lv_aload_n hx hb dX2_read_1 rfl (lv_at hl 2 rfl) ?_
  refine gf_X2_27 X hP 2 rfl rfl dX2_read_2 ?_
  refine pf_X2_33 X hP hD hS 0 rfl (Nat.le_of_ble_eq_true rfl) (ws' := (wd_X2_read E a_t a_p1 a_p2 a_t_counts w_t_ends w_t_comers w_t_leaders w_t_chains x_p2_places x_t_beginnings x_p1 w_p2_text w_p2_weights w_p2_sightFrom w_p2_sightOut x_p2_places x_p2_beginnings x_p2_courtCount x_p2_allowed x_p2_sights x_p2_kept x_t_counts)) rfl dX2_read_5 (fun H locs hP hD hS => ?_)
  refine lv_aload_n hx hb dX2_read_8 rfl (lv_at hl 0 rfl) ?_
  refine lv_aload_n hx hb dX2_read_9 rfl (lv_at hl 2 rfl) ?_
  refine gf_X2_34 X hP 2 rfl rfl dX2_read_10 ?_
  refine pf_X2_37 X hP hD hS 0 rfl (Nat.le_of_ble_eq_true rfl) (ws' := (wd_X2_read E a_t a_p1 a_p2 a_t_counts w_t_ends w_t_comers w_t_leaders w_t_chains x_p2_places x_p2_beginnings x_p1 w_p2_text w_p2_weights w_p2_sightFrom w_p2_sightOut x_p2_places x_p2_beginnings x_p2_courtCount x_p2_allowed x_p2_sights x_p2_kept x_t_counts)) rfl dX2_read_13 (fun H locs hP hD hS => ?_)
  refine lv_iconst (v := (0 : Int32)) hx hb dX2_read_16 (by decide) ?_
  refine lv_istore (lv' := [(4, .int (0 : Int32)), (0, .ref a_t), (1, .ref a_p1), (2, .ref a_p2), (3, .int p3)]) hx hb dX2_read_17 hl (by decide) rfl (fun ls hl => ?_)
  exact L19 FU (0 : Int32) x_p2_places x_p2_beginnings x_t_counts hf H locs ls hP hD hS (lv_sub hl [1, 2, 4, 0] rfl)
abbrev wd_X2_endBy (E : EN) (a_t : Nat) (a_t_ends : Nat) (w_t_counts : Value) (w_t_comers : Value) (w_t_leaders : Value) (w_t_chains : Value) (x_t_places : Int32) (x_t_beginnings : Int32) (x_t_ends : Nat → Int32) : va_W := [(a_t, e_O 2 [w_t_counts, .ref a_t_ends, w_t_comers, w_t_leaders, w_t_chains, .int x_t_places, .int x_t_beginnings]), (a_t_ends, e_I E 40 x_t_ends)]
def f_X2_endBy (p1 : Int32) (p2 : Int32) (x_t_places : Int32) (x_t_ends : Nat → Int32) : Option (Int32) :=
  if x_t_places ≤ (p1 + p2) then
    some p1
  else
    ck (inB (p1 + p2) 40) (
    some (x_t_ends (ix (p1 + p2))))
set_option maxHeartbeats 4000000 in
set_option maxRecDepth 100000 in
theorem c_X2_endBy (l : Launch) (E : EN) (a_t a_t_ends : Nat) (w_t_counts : Value) (w_t_comers : Value) (w_t_leaders : Value) (w_t_chains : Value) (x_t_places : Int32) (x_t_beginnings : Int32) (x_t_ends : Nat → Int32) (p1 : Int32) (p2 : Int32) (res : Int32) (hf : f_X2_endBy p1 p2 x_t_places x_t_ends = some res) : CtI l yX2_endBy cX2_endBy 4 .int 0 0 E [.ref a_t, .int p1, .int p2] (wd_X2_endBy E a_t a_t_ends w_t_counts w_t_comers w_t_leaders w_t_chains x_t_places x_t_beginnings x_t_ends) (wd_X2_endBy E a_t a_t_ends w_t_counts w_t_comers w_t_leaders w_t_chains x_t_places x_t_beginnings x_t_ends) res := by
  refine CtI.of RX2 (by decide) rfl (Nat.le_of_ble_eq_true rfl) ?_
  intro p e s m below meth c A Q ls X hA hP hD hl fin
  have hx := X.1
  have hb := X.2.1
  have hl : lv_has ls 4 [(0, .ref a_t), (1, .int p1), (2, .int p2)] := hl
  have fin' : ∀ (fr0 : Int32), some fr0 = some res → ∀ (pc : Nat) (ls : Array Slot) (H : Heap) (locs : List Loc), decode cX2_endBy pc = .ok (.ireturn, 1) → narrow .int (.int fr0) = .int fr0 → va_P E.1 vwCl (wd_X2_endBy E a_t a_t_ends w_t_counts w_t_comers w_t_leaders w_t_chains x_t_places x_t_beginnings x_t_ends) H → va_D A (wd_X2_endBy E a_t a_t_ends w_t_counts w_t_comers w_t_leaders w_t_chains x_t_places x_t_beginnings x_t_ends) → va_S A s.heap H locs → W p l e (rmm 0 0) s m ([.ref a_t, .int p1, .int p2] : List Value).toArray below meth c H locs 0 0 Q (F0 m pc ls [.int fr0]) := by
    intro fr0 he
    cases he
    exact fin
  have hS : va_S A s.heap s.heap [] := va_S.rf
  obtain ⟨H, hH9⟩ : ∃ z, z = s.heap := ⟨_, rfl⟩
  obtain ⟨locs, hL9⟩ : ∃ z : List Loc, z = [] := ⟨_, rfl⟩
  rw [← hL9]
  rw [← hL9] at hS
  have hP : va_P E.1 vwCl (wd_X2_endBy E a_t a_t_ends w_t_counts w_t_comers w_t_leaders w_t_chains x_t_places x_t_beginnings x_t_ends) H := by rw [hH9]; exact hP
  have hS : va_S A s.heap H locs := by rw [hH9]; exact hS
  suffices hgoal : W p l e (rmm 0 0) s m ([.ref a_t, .int p1, .int p2] : List Value).toArray below meth c H locs 0 0 Q (F0 m 0 ls []) by rw [hH9] at hgoal; exact hgoal
  rw [f_X2_endBy] at hf
  refine lv_iload_n hx hb dX2_endBy_0 rfl (lv_at hl 1 rfl) ?_
  refine lv_iload_n hx hb dX2_endBy_1 rfl (lv_at hl 2 rfl) ?_
  refine lv_iadd hx hb dX2_endBy_2 ?_
  refine lv_istore_n (lv' := [(3, .int (p1 + p2)), (0, .ref a_t), (1, .int p1), (2, .int p2)]) hx hb dX2_endBy_3 rfl hl (by decide) rfl (fun ls hl => ?_)
  refine lv_iload_n hx hb dX2_endBy_4 rfl (lv_at hl 0 rfl) ?_
  refine lv_aload_n hx hb dX2_endBy_5 rfl (lv_at hl 1 rfl) ?_
  refine gf_X2_33 X hP 0 rfl rfl dX2_endBy_6 ?_
  refine lv_icmp_ge (tgt := 21) hx hb dX2_endBy_9 (by decide) (fun c_9 => ?_) (fun c_9 => ?_)
  · have hf := if_t c_9 hf
    refine lv_iload_n hx hb dX2_endBy_21 rfl (lv_at hl 2 rfl) ?_
    exact fin' _ hf 22 ls H locs dX2_endBy_22 rfl hP hD hS
  · have hf := if_f c_9 hf
    refine lv_aload_n hx hb dX2_endBy_12 rfl (lv_at hl 1 rfl) ?_
    refine gf_X2_15 X hP 0 rfl rfl dX2_endBy_13 ?_
    refine lv_iload_n hx hb dX2_endBy_16 rfl (lv_at hl 0 rfl) ?_
    obtain ⟨hi17, hf⟩ := ck_some hf
    refine r_iald X hP 1 rfl hi17 dX2_endBy_17 ?_
    refine lv_goto (tgt := 22) hx hb dX2_endBy_18 (by decide) ?_
    exact fin' _ hf 22 ls H locs dX2_endBy_22 rfl hP hD hS
abbrev wd_X2_follow (E : EN) (a_t : Nat) (a_p1 : Nat) (a_p2 : Nat) (a_t_counts : Nat) (a_t_ends : Nat) (a_t_comers : Nat) (a_t_leaders : Nat) (a_t_chains : Nat) (x_t_places : Int32) (x_t_beginnings : Int32) (x_p1 : Nat → Int32) (w_p2_text : Value) (w_p2_weights : Value) (w_p2_sightFrom : Value) (w_p2_sightOut : Value) (x_p2_places : Int32) (x_p2_beginnings : Int32) (x_p2_courtCount : Int32) (x_p2_allowed : Int32) (x_p2_sights : Int32) (x_p2_kept : Int32) (x_t_counts : Nat → Int32) (x_t_ends : Nat → Int32) (x_t_comers : Nat → Int32) (x_t_leaders : Nat → Int32) (x_t_chains : Nat → Int32) : va_W := [(a_t, e_O 2 [.ref a_t_counts, .ref a_t_ends, .ref a_t_comers, .ref a_t_leaders, .ref a_t_chains, .int x_t_places, .int x_t_beginnings]), (a_p1, e_C E 40 x_p1), (a_p2, e_O 3 [w_p2_text, w_p2_weights, w_p2_sightFrom, w_p2_sightOut, .int x_p2_places, .int x_p2_beginnings, .int x_p2_courtCount, .int x_p2_allowed, .int x_p2_sights, .int x_p2_kept]), (a_t_counts, e_I E 40 x_t_counts), (a_t_ends, e_I E 40 x_t_ends), (a_t_comers, e_I E 40 x_t_comers), (a_t_leaders, e_I E 40 x_t_leaders), (a_t_chains, e_I E 40 x_t_chains)]
def f_X2_follow_86  : Nat → Int32 → Int32 → Int32 → (Nat → Int32) → (Nat → Int32) → (Nat → Int32) → (Nat → Int32) → (Nat → Int32) → Option (Int32 × Int32 × (Nat → Int32) × (Nat → Int32) × (Nat → Int32) × (Nat → Int32) × (Nat → Int32))
  | 0, _, _, _, _, _, _, _, _ => none
  | n_ + 1, v4, m_t_places, m_t_beginnings, m_t_counts, m_t_ends, m_t_comers, m_t_leaders, m_t_chains =>
    if m_t_places ≤ v4 then
      some (m_t_places, m_t_beginnings, m_t_counts, m_t_ends, m_t_comers, m_t_leaders, m_t_chains)
    else
      ck (inB v4 40) (
      if m_t_places ≤ (v4 + (m_t_counts (ix v4))) then
        f_X2_follow_86 n_ (v4 + (1 : Int32)) m_t_places m_t_beginnings m_t_counts m_t_ends m_t_comers m_t_leaders m_t_chains
      else
        ck (inB (v4 + (m_t_counts (ix v4))) 40) (
        f_X2_follow_86 n_ (v4 + (1 : Int32)) m_t_places m_t_beginnings m_t_counts m_t_ends (upd m_t_comers (ix (v4 + (m_t_counts (ix v4)))) ((m_t_comers (ix (v4 + (m_t_counts (ix v4))))) + (m_t_comers (ix v4)))) (upd m_t_leaders (ix (v4 + (m_t_counts (ix v4)))) ((m_t_leaders (ix (v4 + (m_t_counts (ix v4))))) + (1 : Int32))) (upd m_t_chains (ix (v4 + (m_t_counts (ix v4)))) (if (m_t_chains (ix (v4 + (m_t_counts (ix v4))))) < ((m_t_chains (ix v4)) + (1 : Int32)) then ((m_t_chains (ix v4)) + (1 : Int32)) else (m_t_chains (ix (v4 + (m_t_counts (ix v4)))))))))
def f_X2_follow_15  : Nat → Int32 → Int32 → Int32 → (Nat → Int32) → (Nat → Int32) → (Nat → Int32) → (Nat → Int32) → (Nat → Int32) → Option (Int32 × Int32 × (Nat → Int32) × (Nat → Int32) × (Nat → Int32) × (Nat → Int32) × (Nat → Int32))
  | 0, _, _, _, _, _, _, _, _ => none
  | n_ + 1, v4, m_t_places, m_t_beginnings, m_t_counts, m_t_ends, m_t_comers, m_t_leaders, m_t_chains =>
    if v4 < 0 then
      f_X2_follow_86 FU (0 : Int32) m_t_places m_t_beginnings m_t_counts m_t_ends m_t_comers m_t_leaders m_t_chains
    else
      ck (inB v4 40) (
      Option.bind (f_X2_endBy v4 (m_t_counts (ix v4)) m_t_places m_t_ends) (fun r36 =>
      if m_t_beginnings ≤ v4 then
        f_X2_follow_15 n_ (v4 + (-1 : Int32)) m_t_places m_t_beginnings m_t_counts (upd m_t_ends (ix v4) r36) (upd m_t_comers (ix v4) (0 : Int32)) (upd m_t_leaders (ix v4) (0 : Int32)) (upd m_t_chains (ix v4) (0 : Int32))
      else
        f_X2_follow_15 n_ (v4 + (-1 : Int32)) m_t_places m_t_beginnings m_t_counts (upd m_t_ends (ix v4) r36) (upd m_t_comers (ix v4) (1 : Int32)) (upd m_t_leaders (ix v4) (0 : Int32)) (upd m_t_chains (ix v4) (0 : Int32))))
def f_X2_follow (p3 : Int32) (x_p1 : Nat → Int32) (x_p2_places : Int32) (x_p2_beginnings : Int32) (x_t_counts : Nat → Int32) (x_t_ends : Nat → Int32) (x_t_comers : Nat → Int32) (x_t_leaders : Nat → Int32) (x_t_chains : Nat → Int32) : Option (Int32 × Int32 × (Nat → Int32) × (Nat → Int32) × (Nat → Int32) × (Nat → Int32) × (Nat → Int32)) :=
  Option.bind (f_X2_read p3 x_p1 x_p2_places x_p2_beginnings x_t_counts) (fun r4 =>
  f_X2_follow_15 FU (r4.1 - (1 : Int32)) r4.1 r4.2.1 r4.2.2 x_t_ends x_t_comers x_t_leaders x_t_chains)
set_option maxHeartbeats 4000000 in
set_option maxRecDepth 100000 in
theorem c_X2_follow (l : Launch) (E : EN) (a_t a_p1 a_p2 a_t_counts a_t_ends a_t_comers a_t_leaders a_t_chains : Nat) (x_t_places : Int32) (x_t_beginnings : Int32) (x_p1 : Nat → Int32) (w_p2_text : Value) (w_p2_weights : Value) (w_p2_sightFrom : Value) (w_p2_sightOut : Value) (x_p2_places : Int32) (x_p2_beginnings : Int32) (x_p2_courtCount : Int32) (x_p2_allowed : Int32) (x_p2_sights : Int32) (x_p2_kept : Int32) (x_t_counts : Nat → Int32) (x_t_ends : Nat → Int32) (x_t_comers : Nat → Int32) (x_t_leaders : Nat → Int32) (x_t_chains : Nat → Int32) (p3 : Int32) (res : Int32 × Int32 × (Nat → Int32) × (Nat → Int32) × (Nat → Int32) × (Nat → Int32) × (Nat → Int32)) (hf : f_X2_follow p3 x_p1 x_p2_places x_p2_beginnings x_t_counts x_t_ends x_t_comers x_t_leaders x_t_chains = some res) : CtV l yX2_follow cX2_follow 6 2 45 E [.ref a_t, .ref a_p1, .ref a_p2, .int p3] (wd_X2_follow E a_t a_p1 a_p2 a_t_counts a_t_ends a_t_comers a_t_leaders a_t_chains x_t_places x_t_beginnings x_p1 w_p2_text w_p2_weights w_p2_sightFrom w_p2_sightOut x_p2_places x_p2_beginnings x_p2_courtCount x_p2_allowed x_p2_sights x_p2_kept x_t_counts x_t_ends x_t_comers x_t_leaders x_t_chains) (wd_X2_follow E a_t a_p1 a_p2 a_t_counts a_t_ends a_t_comers a_t_leaders a_t_chains res.1 res.2.1 x_p1 w_p2_text w_p2_weights w_p2_sightFrom w_p2_sightOut x_p2_places x_p2_beginnings x_p2_courtCount x_p2_allowed x_p2_sights x_p2_kept res.2.2.1 res.2.2.2.1 res.2.2.2.2.1 res.2.2.2.2.2.1 res.2.2.2.2.2.2) := by
  refine CtV.of RX2 (by decide) rfl (Nat.le_of_ble_eq_true rfl) ?_
  intro p e s m below meth c A Q ls X hA hP hD hl fin
  have hx := X.1
  have hb := X.2.1
  have hl : lv_has ls 6 [(0, .ref a_t), (1, .ref a_p1), (2, .ref a_p2), (3, .int p3)] := hl
  have fin' : ∀ (fr0 : Int32) (fr1 : Int32) (fr2 : (Nat → Int32)) (fr3 : (Nat → Int32)) (fr4 : (Nat → Int32)) (fr5 : (Nat → Int32)) (fr6 : (Nat → Int32)), some (fr0, fr1, fr2, fr3, fr4, fr5, fr6) = some res → ∀ (pc : Nat) (ls : Array Slot) (H : Heap) (locs : List Loc), decode cX2_follow pc = .ok (.return_, 1) → va_P E.1 vwCl (wd_X2_follow E a_t a_p1 a_p2 a_t_counts a_t_ends a_t_comers a_t_leaders a_t_chains fr0 fr1 x_p1 w_p2_text w_p2_weights w_p2_sightFrom w_p2_sightOut x_p2_places x_p2_beginnings x_p2_courtCount x_p2_allowed x_p2_sights x_p2_kept fr2 fr3 fr4 fr5 fr6) H → va_D A (wd_X2_follow E a_t a_p1 a_p2 a_t_counts a_t_ends a_t_comers a_t_leaders a_t_chains fr0 fr1 x_p1 w_p2_text w_p2_weights w_p2_sightFrom w_p2_sightOut x_p2_places x_p2_beginnings x_p2_courtCount x_p2_allowed x_p2_sights x_p2_kept fr2 fr3 fr4 fr5 fr6) → va_S A s.heap H locs → W p l e (rmm 2 45) s m ([.ref a_t, .ref a_p1, .ref a_p2, .int p3] : List Value).toArray below meth c H locs 0 0 Q (F0 m pc ls []) := by
    intro fr0 fr1 fr2 fr3 fr4 fr5 fr6 he
    cases he
    exact fin
  have L86 : ∀ (n86 : Nat) (v4 : Int32) (m_t_places : Int32) (m_t_beginnings : Int32) (m_t_counts : Nat → Int32) (m_t_ends : Nat → Int32) (m_t_comers : Nat → Int32) (m_t_leaders : Nat → Int32) (m_t_chains : Nat → Int32), f_X2_follow_86 n86 v4 m_t_places m_t_beginnings m_t_counts m_t_ends m_t_comers m_t_leaders m_t_chains = some res → ∀ (H : Heap) (locs : List Loc) (ls : Array Slot), va_P E.1 vwCl (wd_X2_follow E a_t a_p1 a_p2 a_t_counts a_t_ends a_t_comers a_t_leaders a_t_chains m_t_places m_t_beginnings x_p1 w_p2_text w_p2_weights w_p2_sightFrom w_p2_sightOut x_p2_places x_p2_beginnings x_p2_courtCount x_p2_allowed x_p2_sights x_p2_kept m_t_counts m_t_ends m_t_comers m_t_leaders m_t_chains) H → va_D A (wd_X2_follow E a_t a_p1 a_p2 a_t_counts a_t_ends a_t_comers a_t_leaders a_t_chains m_t_places m_t_beginnings x_p1 w_p2_text w_p2_weights w_p2_sightFrom w_p2_sightOut x_p2_places x_p2_beginnings x_p2_courtCount x_p2_allowed x_p2_sights x_p2_kept m_t_counts m_t_ends m_t_comers m_t_leaders m_t_chains) → va_S A s.heap H locs → lv_has ls 6 [(0, .ref a_t), (4, .int v4)] → W p l e (rmm 2 45) s m ([.ref a_t, .ref a_p1, .ref a_p2, .int p3] : List Value).toArray below meth c H locs 0 0 Q (F0 m 86 ls []) := by
    intro n86
    induction n86 with
    | zero => intro v4 m_t_places m_t_beginnings m_t_counts m_t_ends m_t_comers m_t_leaders m_t_chains hf; rw [f_X2_follow_86] at hf; cases hf
    | succ n86 ih86 =>
      intro v4 m_t_places m_t_beginnings m_t_counts m_t_ends m_t_comers m_t_leaders m_t_chains hf H locs ls hP hD hS hl
      rw [f_X2_follow_86] at hf
      refine lv_iload hx hb dX2_follow_86 (lv_at hl 1 rfl) ?_
      refine lv_aload_n hx hb dX2_follow_88 rfl (lv_at hl 0 rfl) ?_
      refine gf_X2_33 X hP 0 rfl rfl dX2_follow_89 ?_
      refine lv_icmp_ge (tgt := 176) hx hb dX2_follow_92 (by decide) (fun c_92 => ?_) (fun c_92 => ?_)
      · have hf := if_t c_92 hf
        exact fin' _ _ _ _ _ _ _ hf 176 ls H locs dX2_follow_176 hP hD hS
      · have hf := if_f c_92 hf
        refine lv_iload hx hb dX2_follow_95 (lv_at hl 1 rfl) ?_
        refine lv_aload_n hx hb dX2_follow_97 rfl (lv_at hl 0 rfl) ?_
        refine gf_X2_9 X hP 0 rfl rfl dX2_follow_98 ?_
        refine lv_iload hx hb dX2_follow_101 (lv_at hl 1 rfl) ?_
        obtain ⟨hi103, hf⟩ := ck_some hf
        refine r_iald X hP 3 rfl hi103 dX2_follow_103 ?_
        refine lv_iadd hx hb dX2_follow_104 ?_
        refine lv_istore (lv' := [(5, .int (v4 + (m_t_counts (ix v4)))), (0, .ref a_t), (4, .int v4)]) hx hb dX2_follow_105 hl (by decide) rfl (fun ls hl => ?_)
        refine lv_iload hx hb dX2_follow_107 (lv_at hl 0 rfl) ?_
        refine lv_aload_n hx hb dX2_follow_109 rfl (lv_at hl 1 rfl) ?_
        refine gf_X2_33 X hP 0 rfl rfl dX2_follow_110 ?_
        refine lv_icmp_ge (tgt := 170) hx hb dX2_follow_113 (by decide) (fun c_113 => ?_) (fun c_113 => ?_)
        · have hf := if_t c_113 hf
          refine lv_iinc (v := (v4 + (1 : Int32))) (lv' := [(4, .int (v4 + (1 : Int32))), (5, .int (v4 + (m_t_counts (ix v4)))), (0, .ref a_t)]) hx hb dX2_follow_170 hl (k := 2) rfl rfl (by decide) rfl (fun ls hl => ?_)
          refine lv_goto (tgt := 86) hx hb dX2_follow_173 (by decide) ?_
          exact ih86 (v4 + (1 : Int32)) m_t_places m_t_beginnings m_t_counts m_t_ends m_t_comers m_t_leaders m_t_chains hf H locs ls hP hD hS (lv_sub hl [2, 0] rfl)
        · have hf := if_f c_113 hf
          refine lv_aload_n hx hb dX2_follow_116 rfl (lv_at hl 1 rfl) ?_
          refine gf_X2_18 X hP 0 rfl rfl dX2_follow_117 ?_
          refine lv_iload hx hb dX2_follow_120 (lv_at hl 0 rfl) ?_
          refine lv_dup2_11 hx hb dX2_follow_122 rfl rfl ?_
          obtain ⟨hi123, hf⟩ := ck_some hf
          refine r_iald X hP 5 rfl hi123 dX2_follow_123 ?_
          refine lv_aload_n hx hb dX2_follow_124 rfl (lv_at hl 1 rfl) ?_
          refine gf_X2_18 X hP 0 rfl rfl dX2_follow_125 ?_
          refine lv_iload hx hb dX2_follow_128 (lv_at hl 2 rfl) ?_
          refine r_iald X hP 5 rfl hi103 dX2_follow_130 ?_
          refine lv_iadd hx hb dX2_follow_131 ?_
          refine r_iast X hP hD hS 5 rfl hi123 (ws' := (wd_X2_follow E a_t a_p1 a_p2 a_t_counts a_t_ends a_t_comers a_t_leaders a_t_chains m_t_places m_t_beginnings x_p1 w_p2_text w_p2_weights w_p2_sightFrom w_p2_sightOut x_p2_places x_p2_beginnings x_p2_courtCount x_p2_allowed x_p2_sights x_p2_kept m_t_counts m_t_ends (upd m_t_comers (ix (v4 + (m_t_counts (ix v4)))) ((m_t_comers (ix (v4 + (m_t_counts (ix v4))))) + (m_t_comers (ix v4)))) m_t_leaders m_t_chains)) rfl dX2_follow_132 (fun H locs hP hD hS => ?_)
          refine lv_aload_n hx hb dX2_follow_133 rfl (lv_at hl 1 rfl) ?_
          refine gf_X2_21 X hP 0 rfl rfl dX2_follow_134 ?_
          refine lv_iload hx hb dX2_follow_137 (lv_at hl 0 rfl) ?_
          refine lv_dup2_11 hx hb dX2_follow_139 rfl rfl ?_
          refine r_iald X hP 6 rfl hi123 dX2_follow_140 ?_
          refine lv_iconst (v := (1 : Int32)) hx hb dX2_follow_141 (by decide) ?_
          refine lv_iadd hx hb dX2_follow_142 ?_
          refine r_iast X hP hD hS 6 rfl hi123 (ws' := (wd_X2_follow E a_t a_p1 a_p2 a_t_counts a_t_ends a_t_comers a_t_leaders a_t_chains m_t_places m_t_beginnings x_p1 w_p2_text w_p2_weights w_p2_sightFrom w_p2_sightOut x_p2_places x_p2_beginnings x_p2_courtCount x_p2_allowed x_p2_sights x_p2_kept m_t_counts m_t_ends (upd m_t_comers (ix (v4 + (m_t_counts (ix v4)))) ((m_t_comers (ix (v4 + (m_t_counts (ix v4))))) + (m_t_comers (ix v4)))) (upd m_t_leaders (ix (v4 + (m_t_counts (ix v4)))) ((m_t_leaders (ix (v4 + (m_t_counts (ix v4))))) + (1 : Int32))) m_t_chains)) rfl dX2_follow_143 (fun H locs hP hD hS => ?_)
          refine lv_aload_n hx hb dX2_follow_144 rfl (lv_at hl 1 rfl) ?_
          refine gf_X2_24 X hP 0 rfl rfl dX2_follow_145 ?_
          refine lv_iload hx hb dX2_follow_148 (lv_at hl 0 rfl) ?_
          refine lv_aload_n hx hb dX2_follow_150 rfl (lv_at hl 1 rfl) ?_
          refine gf_X2_24 X hP 0 rfl rfl dX2_follow_151 ?_
          refine lv_iload hx hb dX2_follow_154 (lv_at hl 0 rfl) ?_
          refine r_iald X hP 7 rfl hi123 dX2_follow_156 ?_
          refine lv_aload_n hx hb dX2_follow_157 rfl (lv_at hl 1 rfl) ?_
          refine gf_X2_24 X hP 0 rfl rfl dX2_follow_158 ?_
          refine lv_iload hx hb dX2_follow_161 (lv_at hl 2 rfl) ?_
          refine r_iald X hP 7 rfl hi103 dX2_follow_163 ?_
          refine lv_iconst (v := (1 : Int32)) hx hb dX2_follow_164 (by decide) ?_
          refine lv_iadd hx hb dX2_follow_165 ?_
          refine r_mmax X hl.1 k_397 (Nat.le_of_ble_eq_true rfl) (Nat.le_of_ble_eq_true rfl) (Nat.le_of_ble_eq_true rfl) (Nat.le_of_ble_eq_true rfl) dX2_follow_166 ?_
          refine r_iast X hP hD hS 7 rfl hi123 (ws' := (wd_X2_follow E a_t a_p1 a_p2 a_t_counts a_t_ends a_t_comers a_t_leaders a_t_chains m_t_places m_t_beginnings x_p1 w_p2_text w_p2_weights w_p2_sightFrom w_p2_sightOut x_p2_places x_p2_beginnings x_p2_courtCount x_p2_allowed x_p2_sights x_p2_kept m_t_counts m_t_ends (upd m_t_comers (ix (v4 + (m_t_counts (ix v4)))) ((m_t_comers (ix (v4 + (m_t_counts (ix v4))))) + (m_t_comers (ix v4)))) (upd m_t_leaders (ix (v4 + (m_t_counts (ix v4)))) ((m_t_leaders (ix (v4 + (m_t_counts (ix v4))))) + (1 : Int32))) (upd m_t_chains (ix (v4 + (m_t_counts (ix v4)))) (if (m_t_chains (ix (v4 + (m_t_counts (ix v4))))) < ((m_t_chains (ix v4)) + (1 : Int32)) then ((m_t_chains (ix v4)) + (1 : Int32)) else (m_t_chains (ix (v4 + (m_t_counts (ix v4))))))))) rfl dX2_follow_169 (fun H locs hP hD hS => ?_)
          refine lv_iinc (v := (v4 + (1 : Int32))) (lv' := [(4, .int (v4 + (1 : Int32))), (5, .int (v4 + (m_t_counts (ix v4)))), (0, .ref a_t)]) hx hb dX2_follow_170 hl (k := 2) rfl rfl (by decide) rfl (fun ls hl => ?_)
          refine lv_goto (tgt := 86) hx hb dX2_follow_173 (by decide) ?_
          exact ih86 (v4 + (1 : Int32)) m_t_places m_t_beginnings m_t_counts m_t_ends (upd m_t_comers (ix (v4 + (m_t_counts (ix v4)))) ((m_t_comers (ix (v4 + (m_t_counts (ix v4))))) + (m_t_comers (ix v4)))) (upd m_t_leaders (ix (v4 + (m_t_counts (ix v4)))) ((m_t_leaders (ix (v4 + (m_t_counts (ix v4))))) + (1 : Int32))) (upd m_t_chains (ix (v4 + (m_t_counts (ix v4)))) (if (m_t_chains (ix (v4 + (m_t_counts (ix v4))))) < ((m_t_chains (ix v4)) + (1 : Int32)) then ((m_t_chains (ix v4)) + (1 : Int32)) else (m_t_chains (ix (v4 + (m_t_counts (ix v4))))))) hf H locs ls hP hD hS (lv_sub hl [2, 0] rfl)
  have L15 : ∀ (n15 : Nat) (v4 : Int32) (m_t_places : Int32) (m_t_beginnings : Int32) (m_t_counts : Nat → Int32) (m_t_ends : Nat → Int32) (m_t_comers : Nat → Int32) (m_t_leaders : Nat → Int32) (m_t_chains : Nat → Int32), f_X2_follow_15 n15 v4 m_t_places m_t_beginnings m_t_counts m_t_ends m_t_comers m_t_leaders m_t_chains = some res → ∀ (H : Heap) (locs : List Loc) (ls : Array Slot), va_P E.1 vwCl (wd_X2_follow E a_t a_p1 a_p2 a_t_counts a_t_ends a_t_comers a_t_leaders a_t_chains m_t_places m_t_beginnings x_p1 w_p2_text w_p2_weights w_p2_sightFrom w_p2_sightOut x_p2_places x_p2_beginnings x_p2_courtCount x_p2_allowed x_p2_sights x_p2_kept m_t_counts m_t_ends m_t_comers m_t_leaders m_t_chains) H → va_D A (wd_X2_follow E a_t a_p1 a_p2 a_t_counts a_t_ends a_t_comers a_t_leaders a_t_chains m_t_places m_t_beginnings x_p1 w_p2_text w_p2_weights w_p2_sightFrom w_p2_sightOut x_p2_places x_p2_beginnings x_p2_courtCount x_p2_allowed x_p2_sights x_p2_kept m_t_counts m_t_ends m_t_comers m_t_leaders m_t_chains) → va_S A s.heap H locs → lv_has ls 6 [(0, .ref a_t), (4, .int v4)] → W p l e (rmm 2 45) s m ([.ref a_t, .ref a_p1, .ref a_p2, .int p3] : List Value).toArray below meth c H locs 0 0 Q (F0 m 15 ls []) := by
    intro n15
    induction n15 with
    | zero => intro v4 m_t_places m_t_beginnings m_t_counts m_t_ends m_t_comers m_t_leaders m_t_chains hf; rw [f_X2_follow_15] at hf; cases hf
    | succ n15 ih15 =>
      intro v4 m_t_places m_t_beginnings m_t_counts m_t_ends m_t_comers m_t_leaders m_t_chains hf H locs ls hP hD hS hl
      rw [f_X2_follow_15] at hf
      refine lv_iload hx hb dX2_follow_15 (lv_at hl 1 rfl) ?_
      refine lv_if_lt (tgt := 83) hx hb dX2_follow_17 (by decide) (fun c_17 => ?_) (fun c_17 => ?_)
      · have hf := if_t c_17 hf
        refine lv_iconst (v := (0 : Int32)) hx hb dX2_follow_83 (by decide) ?_
        refine lv_istore (lv' := [(4, .int (0 : Int32)), (0, .ref a_t)]) hx hb dX2_follow_84 hl (by decide) rfl (fun ls hl => ?_)
        exact L86 FU (0 : Int32) m_t_places m_t_beginnings m_t_counts m_t_ends m_t_comers m_t_leaders m_t_chains hf H locs ls hP hD hS (lv_sub hl [1, 0] rfl)
      · have hf := if_f c_17 hf
        refine lv_aload_n hx hb dX2_follow_20 rfl (lv_at hl 0 rfl) ?_
        refine gf_X2_15 X hP 0 rfl rfl dX2_follow_21 ?_
        refine lv_iload hx hb dX2_follow_24 (lv_at hl 1 rfl) ?_
        refine lv_aload_n hx hb dX2_follow_26 rfl (lv_at hl 0 rfl) ?_
        refine lv_iload hx hb dX2_follow_27 (lv_at hl 1 rfl) ?_
        refine lv_aload_n hx hb dX2_follow_29 rfl (lv_at hl 0 rfl) ?_
        refine gf_X2_9 X hP 0 rfl rfl dX2_follow_30 ?_
        refine lv_iload hx hb dX2_follow_33 (lv_at hl 1 rfl) ?_
        obtain ⟨hi35, hf⟩ := ck_some hf
        refine r_iald X hP 3 rfl hi35 dX2_follow_35 ?_
        obtain ⟨r36, hc36, hf⟩ := bd_some hf
        refine cV_I X hA hP hD hS hl.1 (c_X2_endBy l E a_t a_t_ends (.ref a_t_counts) (.ref a_t_comers) (.ref a_t_leaders) (.ref a_t_chains) m_t_places m_t_beginnings m_t_ends v4 (m_t_counts (ix v4)) r36 hc36) 2 k_393 mw_X2_endBy hd_X2_endBy ⟨Nat.le_of_ble_eq_true rfl, Nat.le_of_ble_eq_true rfl⟩ [0, 4] [1, 2, 3, 5, 6, 7] [6, 0, 1, 2, 7, 3, 4, 5] rfl rfl (wr := [1, 2, 3, 5, 6, 7].filterMap (fun i => (wd_X2_follow E a_t a_p1 a_p2 a_t_counts a_t_ends a_t_comers a_t_leaders a_t_chains m_t_places m_t_beginnings x_p1 w_p2_text w_p2_weights w_p2_sightFrom w_p2_sightOut x_p2_places x_p2_beginnings x_p2_courtCount x_p2_allowed x_p2_sights x_p2_kept m_t_counts m_t_ends m_t_comers m_t_leaders m_t_chains)[i]?)) rfl rfl rfl 2 0 rfl rfl rfl rfl rfl (Nat.le_of_ble_eq_true rfl) rfl (ws' := (wd_X2_follow E a_t a_p1 a_p2 a_t_counts a_t_ends a_t_comers a_t_leaders a_t_chains m_t_places m_t_beginnings x_p1 w_p2_text w_p2_weights w_p2_sightFrom w_p2_sightOut x_p2_places x_p2_beginnings x_p2_courtCount x_p2_allowed x_p2_sights x_p2_kept m_t_counts m_t_ends m_t_comers m_t_leaders m_t_chains)) rfl ⟨Nat.le_of_ble_eq_true rfl, Nat.le_of_ble_eq_true rfl⟩ dX2_follow_36 (fun H locs hP hD hS => ?_)
        refine r_iast X hP hD hS 4 rfl hi35 (ws' := (wd_X2_follow E a_t a_p1 a_p2 a_t_counts a_t_ends a_t_comers a_t_leaders a_t_chains m_t_places m_t_beginnings x_p1 w_p2_text w_p2_weights w_p2_sightFrom w_p2_sightOut x_p2_places x_p2_beginnings x_p2_courtCount x_p2_allowed x_p2_sights x_p2_kept m_t_counts (upd m_t_ends (ix v4) r36) m_t_comers m_t_leaders m_t_chains)) rfl dX2_follow_39 (fun H locs hP hD hS => ?_)
        refine lv_aload_n hx hb dX2_follow_40 rfl (lv_at hl 0 rfl) ?_
        refine gf_X2_18 X hP 0 rfl rfl dX2_follow_41 ?_
        refine lv_iload hx hb dX2_follow_44 (lv_at hl 1 rfl) ?_
        refine lv_iload hx hb dX2_follow_46 (lv_at hl 1 rfl) ?_
        refine lv_aload_n hx hb dX2_follow_48 rfl (lv_at hl 0 rfl) ?_
        refine gf_X2_37 X hP 0 rfl rfl dX2_follow_49 ?_
        refine lv_icmp_ge (tgt := 59) hx hb dX2_follow_52 (by decide) (fun c_52 => ?_) (fun c_52 => ?_)
        · have hf := if_t c_52 hf
          refine lv_iconst (v := (0 : Int32)) hx hb dX2_follow_59 (by decide) ?_
          refine r_iast X hP hD hS 5 rfl hi35 (ws' := (wd_X2_follow E a_t a_p1 a_p2 a_t_counts a_t_ends a_t_comers a_t_leaders a_t_chains m_t_places m_t_beginnings x_p1 w_p2_text w_p2_weights w_p2_sightFrom w_p2_sightOut x_p2_places x_p2_beginnings x_p2_courtCount x_p2_allowed x_p2_sights x_p2_kept m_t_counts (upd m_t_ends (ix v4) r36) (upd m_t_comers (ix v4) (0 : Int32)) m_t_leaders m_t_chains)) rfl dX2_follow_60 (fun H locs hP hD hS => ?_)
          refine lv_aload_n hx hb dX2_follow_61 rfl (lv_at hl 0 rfl) ?_
          refine gf_X2_21 X hP 0 rfl rfl dX2_follow_62 ?_
          refine lv_iload hx hb dX2_follow_65 (lv_at hl 1 rfl) ?_
          refine lv_iconst (v := (0 : Int32)) hx hb dX2_follow_67 (by decide) ?_
          refine r_iast X hP hD hS 6 rfl hi35 (ws' := (wd_X2_follow E a_t a_p1 a_p2 a_t_counts a_t_ends a_t_comers a_t_leaders a_t_chains m_t_places m_t_beginnings x_p1 w_p2_text w_p2_weights w_p2_sightFrom w_p2_sightOut x_p2_places x_p2_beginnings x_p2_courtCount x_p2_allowed x_p2_sights x_p2_kept m_t_counts (upd m_t_ends (ix v4) r36) (upd m_t_comers (ix v4) (0 : Int32)) (upd m_t_leaders (ix v4) (0 : Int32)) m_t_chains)) rfl dX2_follow_68 (fun H locs hP hD hS => ?_)
          refine lv_aload_n hx hb dX2_follow_69 rfl (lv_at hl 0 rfl) ?_
          refine gf_X2_24 X hP 0 rfl rfl dX2_follow_70 ?_
          refine lv_iload hx hb dX2_follow_73 (lv_at hl 1 rfl) ?_
          refine lv_iconst (v := (0 : Int32)) hx hb dX2_follow_75 (by decide) ?_
          refine r_iast X hP hD hS 7 rfl hi35 (ws' := (wd_X2_follow E a_t a_p1 a_p2 a_t_counts a_t_ends a_t_comers a_t_leaders a_t_chains m_t_places m_t_beginnings x_p1 w_p2_text w_p2_weights w_p2_sightFrom w_p2_sightOut x_p2_places x_p2_beginnings x_p2_courtCount x_p2_allowed x_p2_sights x_p2_kept m_t_counts (upd m_t_ends (ix v4) r36) (upd m_t_comers (ix v4) (0 : Int32)) (upd m_t_leaders (ix v4) (0 : Int32)) (upd m_t_chains (ix v4) (0 : Int32)))) rfl dX2_follow_76 (fun H locs hP hD hS => ?_)
          refine lv_iinc (v := (v4 + (-1 : Int32))) (lv' := [(4, .int (v4 + (-1 : Int32))), (0, .ref a_t)]) hx hb dX2_follow_77 hl (k := 1) rfl rfl (by decide) rfl (fun ls hl => ?_)
          refine lv_goto (tgt := 15) hx hb dX2_follow_80 (by decide) ?_
          exact ih15 (v4 + (-1 : Int32)) m_t_places m_t_beginnings m_t_counts (upd m_t_ends (ix v4) r36) (upd m_t_comers (ix v4) (0 : Int32)) (upd m_t_leaders (ix v4) (0 : Int32)) (upd m_t_chains (ix v4) (0 : Int32)) hf H locs ls hP hD hS (lv_sub hl [1, 0] rfl)
        · have hf := if_f c_52 hf
          refine lv_iconst (v := (1 : Int32)) hx hb dX2_follow_55 (by decide) ?_
          refine lv_goto (tgt := 60) hx hb dX2_follow_56 (by decide) ?_
          refine r_iast X hP hD hS 5 rfl hi35 (ws' := (wd_X2_follow E a_t a_p1 a_p2 a_t_counts a_t_ends a_t_comers a_t_leaders a_t_chains m_t_places m_t_beginnings x_p1 w_p2_text w_p2_weights w_p2_sightFrom w_p2_sightOut x_p2_places x_p2_beginnings x_p2_courtCount x_p2_allowed x_p2_sights x_p2_kept m_t_counts (upd m_t_ends (ix v4) r36) (upd m_t_comers (ix v4) (1 : Int32)) m_t_leaders m_t_chains)) rfl dX2_follow_60 (fun H locs hP hD hS => ?_)
          refine lv_aload_n hx hb dX2_follow_61 rfl (lv_at hl 0 rfl) ?_
          refine gf_X2_21 X hP 0 rfl rfl dX2_follow_62 ?_
          refine lv_iload hx hb dX2_follow_65 (lv_at hl 1 rfl) ?_
          refine lv_iconst (v := (0 : Int32)) hx hb dX2_follow_67 (by decide) ?_
          refine r_iast X hP hD hS 6 rfl hi35 (ws' := (wd_X2_follow E a_t a_p1 a_p2 a_t_counts a_t_ends a_t_comers a_t_leaders a_t_chains m_t_places m_t_beginnings x_p1 w_p2_text w_p2_weights w_p2_sightFrom w_p2_sightOut x_p2_places x_p2_beginnings x_p2_courtCount x_p2_allowed x_p2_sights x_p2_kept m_t_counts (upd m_t_ends (ix v4) r36) (upd m_t_comers (ix v4) (1 : Int32)) (upd m_t_leaders (ix v4) (0 : Int32)) m_t_chains)) rfl dX2_follow_68 (fun H locs hP hD hS => ?_)
          refine lv_aload_n hx hb dX2_follow_69 rfl (lv_at hl 0 rfl) ?_
          refine gf_X2_24 X hP 0 rfl rfl dX2_follow_70 ?_
          refine lv_iload hx hb dX2_follow_73 (lv_at hl 1 rfl) ?_
          refine lv_iconst (v := (0 : Int32)) hx hb dX2_follow_75 (by decide) ?_
          refine r_iast X hP hD hS 7 rfl hi35 (ws' := (wd_X2_follow E a_t a_p1 a_p2 a_t_counts a_t_ends a_t_comers a_t_leaders a_t_chains m_t_places m_t_beginnings x_p1 w_p2_text w_p2_weights w_p2_sightFrom w_p2_sightOut x_p2_places x_p2_beginnings x_p2_courtCount x_p2_allowed x_p2_sights x_p2_kept m_t_counts (upd m_t_ends (ix v4) r36) (upd m_t_comers (ix v4) (1 : Int32)) (upd m_t_leaders (ix v4) (0 : Int32)) (upd m_t_chains (ix v4) (0 : Int32)))) rfl dX2_follow_76 (fun H locs hP hD hS => ?_)
          refine lv_iinc (v := (v4 + (-1 : Int32))) (lv' := [(4, .int (v4 + (-1 : Int32))), (0, .ref a_t)]) hx hb dX2_follow_77 hl (k := 1) rfl rfl (by decide) rfl (fun ls hl => ?_)
          refine lv_goto (tgt := 15) hx hb dX2_follow_80 (by decide) ?_
          exact ih15 (v4 + (-1 : Int32)) m_t_places m_t_beginnings m_t_counts (upd m_t_ends (ix v4) r36) (upd m_t_comers (ix v4) (1 : Int32)) (upd m_t_leaders (ix v4) (0 : Int32)) (upd m_t_chains (ix v4) (0 : Int32)) hf H locs ls hP hD hS (lv_sub hl [1, 0] rfl)
  have hS : va_S A s.heap s.heap [] := va_S.rf
  obtain ⟨H, hH9⟩ : ∃ z, z = s.heap := ⟨_, rfl⟩
  obtain ⟨locs, hL9⟩ : ∃ z : List Loc, z = [] := ⟨_, rfl⟩
  rw [← hL9]
  rw [← hL9] at hS
  have hP : va_P E.1 vwCl (wd_X2_follow E a_t a_p1 a_p2 a_t_counts a_t_ends a_t_comers a_t_leaders a_t_chains x_t_places x_t_beginnings x_p1 w_p2_text w_p2_weights w_p2_sightFrom w_p2_sightOut x_p2_places x_p2_beginnings x_p2_courtCount x_p2_allowed x_p2_sights x_p2_kept x_t_counts x_t_ends x_t_comers x_t_leaders x_t_chains) H := by rw [hH9]; exact hP
  have hS : va_S A s.heap H locs := by rw [hH9]; exact hS
  suffices hgoal : W p l e (rmm 2 45) s m ([.ref a_t, .ref a_p1, .ref a_p2, .int p3] : List Value).toArray below meth c H locs 0 0 Q (F0 m 0 ls []) by rw [hH9] at hgoal; exact hgoal
  rw [f_X2_follow] at hf
  refine lv_aload_n hx hb dX2_follow_0 rfl (lv_at hl 0 rfl) ?_
  refine lv_aload_n hx hb dX2_follow_1 rfl (lv_at hl 1 rfl) ?_
  refine lv_aload_n hx hb dX2_follow_2 rfl (lv_at hl 2 rfl) ?_
  refine lv_iload_n hx hb dX2_follow_3 rfl (lv_at hl 3 rfl) ?_
  obtain ⟨r4, hc4, hf⟩ := bd_some hf
  refine cV_V X hA hP hD hS hl.1 (c_X2_read l E a_t a_p1 a_p2 a_t_counts (.ref a_t_ends) (.ref a_t_comers) (.ref a_t_leaders) (.ref a_t_chains) x_t_places x_t_beginnings x_p1 w_p2_text w_p2_weights w_p2_sightFrom w_p2_sightOut x_p2_places x_p2_beginnings x_p2_courtCount x_p2_allowed x_p2_sights x_p2_kept x_t_counts p3 r4 hc4) 3 k_388 mw_X2_read hd_X2_read ⟨Nat.le_of_ble_eq_true rfl, Nat.le_of_ble_eq_true rfl⟩ [0, 1, 2, 3] [4, 5, 6, 7] [4, 5, 6, 7, 0, 1, 2, 3] rfl rfl (wr := [4, 5, 6, 7].filterMap (fun i => (wd_X2_follow E a_t a_p1 a_p2 a_t_counts a_t_ends a_t_comers a_t_leaders a_t_chains x_t_places x_t_beginnings x_p1 w_p2_text w_p2_weights w_p2_sightFrom w_p2_sightOut x_p2_places x_p2_beginnings x_p2_courtCount x_p2_allowed x_p2_sights x_p2_kept x_t_counts x_t_ends x_t_comers x_t_leaders x_t_chains)[i]?)) rfl rfl rfl 2 0 rfl rfl rfl rfl rfl (Nat.le_of_ble_eq_true rfl) rfl (ws' := (wd_X2_follow E a_t a_p1 a_p2 a_t_counts a_t_ends a_t_comers a_t_leaders a_t_chains r4.1 r4.2.1 x_p1 w_p2_text w_p2_weights w_p2_sightFrom w_p2_sightOut x_p2_places x_p2_beginnings x_p2_courtCount x_p2_allowed x_p2_sights x_p2_kept r4.2.2 x_t_ends x_t_comers x_t_leaders x_t_chains)) rfl ⟨Nat.le_of_ble_eq_true rfl, Nat.le_of_ble_eq_true rfl⟩ dX2_follow_4 (fun H locs hP hD hS => ?_)
  refine lv_aload_n hx hb dX2_follow_7 rfl (lv_at hl 0 rfl) ?_
  refine gf_X2_33 X hP 0 rfl rfl dX2_follow_8 ?_
  refine lv_iconst (v := (1 : Int32)) hx hb dX2_follow_11 (by decide) ?_
  refine lv_isub hx hb dX2_follow_12 ?_
  refine lv_istore (lv' := [(4, .int (r4.1 - (1 : Int32))), (0, .ref a_t), (1, .ref a_p1), (2, .ref a_p2), (3, .int p3)]) hx hb dX2_follow_13 hl (by decide) rfl (fun ls hl => ?_)
  exact L15 FU (r4.1 - (1 : Int32)) r4.1 r4.2.1 r4.2.2 x_t_ends x_t_comers x_t_leaders x_t_chains hf H locs ls hP hD hS (lv_sub hl [1, 0] rfl)
abbrev wd_X2_manyEnds (E : EN) (a_t : Nat) (a_t_ends : Nat) (w_t_counts : Value) (w_t_comers : Value) (w_t_leaders : Value) (w_t_chains : Value) (x_t_places : Int32) (x_t_beginnings : Int32) (x_t_ends : Nat → Int32) : va_W := [(a_t, e_O 2 [w_t_counts, .ref a_t_ends, w_t_comers, w_t_leaders, w_t_chains, .int x_t_places, .int x_t_beginnings]), (a_t_ends, e_I E 40 x_t_ends)]
def f_X2_manyEnds_4 (x_t_beginnings : Int32) (x_t_ends : Nat → Int32)  : Nat → Int64 → Int32 → Option (Int32)
  | 0, _, _ => none
  | n_ + 1, v1, v3 =>
    if x_t_beginnings ≤ v3 then
      Option.bind (f_J13_bitCount_95d88 v1) (fun r30 =>
      some r30)
    else
      ck (inB v3 40) (
      f_X2_manyEnds_4 x_t_beginnings x_t_ends n_ (v1 ||| (jlshl (1 : Int64) (x_t_ends (ix v3)))) (v3 + (1 : Int32)))
def f_X2_manyEnds (x_t_beginnings : Int32) (x_t_ends : Nat → Int32) : Option (Int32) :=
  f_X2_manyEnds_4 x_t_beginnings x_t_ends FU (0 : Int64) (0 : Int32)
set_option maxHeartbeats 4000000 in
set_option maxRecDepth 100000 in
theorem c_X2_manyEnds (l : Launch) (E : EN) (a_t a_t_ends : Nat) (w_t_counts : Value) (w_t_comers : Value) (w_t_leaders : Value) (w_t_chains : Value) (x_t_places : Int32) (x_t_beginnings : Int32) (x_t_ends : Nat → Int32)  (res : Int32) (hf : f_X2_manyEnds x_t_beginnings x_t_ends = some res) : CtI l yX2_manyEnds cX2_manyEnds 4 .int 1 21 E [.ref a_t] (wd_X2_manyEnds E a_t a_t_ends w_t_counts w_t_comers w_t_leaders w_t_chains x_t_places x_t_beginnings x_t_ends) (wd_X2_manyEnds E a_t a_t_ends w_t_counts w_t_comers w_t_leaders w_t_chains x_t_places x_t_beginnings x_t_ends) res := by
  refine CtI.of RX2 (by decide) rfl (Nat.le_of_ble_eq_true rfl) ?_
  intro p e s m below meth c A Q ls X hA hP hD hl fin
  have hx := X.1
  have hb := X.2.1
  have hl : lv_has ls 4 [(0, .ref a_t)] := hl
  have fin' : ∀ (fr0 : Int32), some fr0 = some res → ∀ (pc : Nat) (ls : Array Slot) (H : Heap) (locs : List Loc), decode cX2_manyEnds pc = .ok (.ireturn, 1) → narrow .int (.int fr0) = .int fr0 → va_P E.1 vwCl (wd_X2_manyEnds E a_t a_t_ends w_t_counts w_t_comers w_t_leaders w_t_chains x_t_places x_t_beginnings x_t_ends) H → va_D A (wd_X2_manyEnds E a_t a_t_ends w_t_counts w_t_comers w_t_leaders w_t_chains x_t_places x_t_beginnings x_t_ends) → va_S A s.heap H locs → W p l e (rmm 1 21) s m ([.ref a_t] : List Value).toArray below meth c H locs 0 0 Q (F0 m pc ls [.int fr0]) := by
    intro fr0 he
    cases he
    exact fin
  have L4 : ∀ (n4 : Nat) (v1 : Int64) (v3 : Int32), f_X2_manyEnds_4 x_t_beginnings x_t_ends n4 v1 v3 = some res → ∀ (H : Heap) (locs : List Loc) (ls : Array Slot), va_P E.1 vwCl (wd_X2_manyEnds E a_t a_t_ends w_t_counts w_t_comers w_t_leaders w_t_chains x_t_places x_t_beginnings x_t_ends) H → va_D A (wd_X2_manyEnds E a_t a_t_ends w_t_counts w_t_comers w_t_leaders w_t_chains x_t_places x_t_beginnings x_t_ends) → va_S A s.heap H locs → lv_has ls 4 [(0, .ref a_t), (1, .long v1), (3, .int v3)] → W p l e (rmm 1 21) s m ([.ref a_t] : List Value).toArray below meth c H locs 0 0 Q (F0 m 4 ls []) := by
    intro n4
    induction n4 with
    | zero => intro v1 v3 hf; rw [f_X2_manyEnds_4] at hf; cases hf
    | succ n4 ih4 =>
      intro v1 v3 hf H locs ls hP hD hS hl
      rw [f_X2_manyEnds_4] at hf
      refine lv_iload_n hx hb dX2_manyEnds_4 rfl (lv_at hl 2 rfl) ?_
      refine lv_aload_n hx hb dX2_manyEnds_5 rfl (lv_at hl 0 rfl) ?_
      refine gf_X2_37 X hP 0 rfl rfl dX2_manyEnds_6 ?_
      refine lv_icmp_ge (tgt := 29) hx hb dX2_manyEnds_9 (by decide) (fun c_9 => ?_) (fun c_9 => ?_)
      · have hf := if_t c_9 hf
        refine lv_lload_n hx hb dX2_manyEnds_29 rfl (lv_at hl 1 rfl) ?_
        obtain ⟨r30, hc30, hf⟩ := bd_some hf
        refine cS_I X hA hP hD hS hl.1 (c_J13_bitCount_95d88 l E v1 r30 hc30) 1 k_408 mw_J13_bitCount_95d88 hd_J13_bitCount_95d88 ⟨Nat.le_of_ble_eq_true rfl, Nat.le_of_ble_eq_true rfl⟩ [] [0, 1] [0, 1] rfl rfl (wr := [0, 1].filterMap (fun i => (wd_X2_manyEnds E a_t a_t_ends w_t_counts w_t_comers w_t_leaders w_t_chains x_t_places x_t_beginnings x_t_ends)[i]?)) rfl rfl rfl rfl rfl (Nat.le_of_ble_eq_true rfl) rfl (ws' := (wd_X2_manyEnds E a_t a_t_ends w_t_counts w_t_comers w_t_leaders w_t_chains x_t_places x_t_beginnings x_t_ends)) rfl ⟨Nat.le_of_ble_eq_true rfl, Nat.le_of_ble_eq_true rfl⟩ dX2_manyEnds_30 (fun H locs hP hD hS => ?_)
        exact fin' _ hf 33 ls H locs dX2_manyEnds_33 rfl hP hD hS
      · have hf := if_f c_9 hf
        refine lv_lload_n hx hb dX2_manyEnds_12 rfl (lv_at hl 1 rfl) ?_
        refine lv_lconst (v := (1 : Int64)) hx hb dX2_manyEnds_13 (by decide) ?_
        refine lv_aload_n hx hb dX2_manyEnds_14 rfl (lv_at hl 0 rfl) ?_
        refine gf_X2_15 X hP 0 rfl rfl dX2_manyEnds_15 ?_
        refine lv_iload_n hx hb dX2_manyEnds_18 rfl (lv_at hl 2 rfl) ?_
        obtain ⟨hi19, hf⟩ := ck_some hf
        refine r_iald X hP 1 rfl hi19 dX2_manyEnds_19 ?_
        refine lv_lshl (v := (jlshl (1 : Int64) (x_t_ends (ix v3)))) hx hb dX2_manyEnds_20 rfl ?_
        refine lv_lor hx hb dX2_manyEnds_21 ?_
        refine lv_lstore_n (lv' := [(1, .long (v1 ||| (jlshl (1 : Int64) (x_t_ends (ix v3))))), (0, .ref a_t), (3, .int v3)]) hx hb dX2_manyEnds_22 rfl hl (by decide) rfl (fun ls hl => ?_)
        refine lv_iinc (v := (v3 + (1 : Int32))) (lv' := [(3, .int (v3 + (1 : Int32))), (1, .long (v1 ||| (jlshl (1 : Int64) (x_t_ends (ix v3))))), (0, .ref a_t)]) hx hb dX2_manyEnds_23 hl (k := 2) rfl rfl (by decide) rfl (fun ls hl => ?_)
        refine lv_goto (tgt := 4) hx hb dX2_manyEnds_26 (by decide) ?_
        exact ih4 (v1 ||| (jlshl (1 : Int64) (x_t_ends (ix v3)))) (v3 + (1 : Int32)) hf H locs ls hP hD hS (lv_sub hl [2, 1, 0] rfl)
  have hS : va_S A s.heap s.heap [] := va_S.rf
  obtain ⟨H, hH9⟩ : ∃ z, z = s.heap := ⟨_, rfl⟩
  obtain ⟨locs, hL9⟩ : ∃ z : List Loc, z = [] := ⟨_, rfl⟩
  rw [← hL9]
  rw [← hL9] at hS
  have hP : va_P E.1 vwCl (wd_X2_manyEnds E a_t a_t_ends w_t_counts w_t_comers w_t_leaders w_t_chains x_t_places x_t_beginnings x_t_ends) H := by rw [hH9]; exact hP
  have hS : va_S A s.heap H locs := by rw [hH9]; exact hS
  suffices hgoal : W p l e (rmm 1 21) s m ([.ref a_t] : List Value).toArray below meth c H locs 0 0 Q (F0 m 0 ls []) by rw [hH9] at hgoal; exact hgoal
  rw [f_X2_manyEnds] at hf
  refine lv_lconst (v := (0 : Int64)) hx hb dX2_manyEnds_0 (by decide) ?_
  refine lv_lstore_n (lv' := [(1, .long (0 : Int64)), (0, .ref a_t)]) hx hb dX2_manyEnds_1 rfl hl (by decide) rfl (fun ls hl => ?_)
  refine lv_iconst (v := (0 : Int32)) hx hb dX2_manyEnds_2 (by decide) ?_
  refine lv_istore_n (lv' := [(3, .int (0 : Int32)), (1, .long (0 : Int64)), (0, .ref a_t)]) hx hb dX2_manyEnds_3 rfl hl (by decide) rfl (fun ls hl => ?_)
  exact L4 FU (0 : Int64) (0 : Int32) hf H locs ls hP hD hS (lv_sub hl [2, 1, 0] rfl)
abbrev wd_X2_streamOf (E : EN) (a_t : Nat) (a_t_counts : Nat) (w_t_ends : Value) (w_t_comers : Value) (w_t_leaders : Value) (w_t_chains : Value) (x_t_places : Int32) (x_t_beginnings : Int32) (x_t_counts : Nat → Int32) : va_W := [(a_t, e_O 2 [.ref a_t_counts, w_t_ends, w_t_comers, w_t_leaders, w_t_chains, .int x_t_places, .int x_t_beginnings]), (a_t_counts, e_I E 40 x_t_counts)]
def f_X2_streamOf_7 (x_t_places : Int32) (x_t_counts : Nat → Int32)  : Nat → Int64 → Int32 → Option (Int64)
  | 0, _, _ => none
  | n_ + 1, v2, v4 =>
    if x_t_places ≤ v4 then
      some v2
    else
      ck (inB v4 40) (
      if (lg_cmp ((jlushr v2 v4) &&& (1 : Int64)) (0 : Int64)) = 0 then
        f_X2_streamOf_7 x_t_places x_t_counts n_ v2 (v4 + (1 : Int32))
      else
        if x_t_places ≤ (v4 + (x_t_counts (ix v4))) then
          f_X2_streamOf_7 x_t_places x_t_counts n_ v2 (v4 + (1 : Int32))
        else
          f_X2_streamOf_7 x_t_places x_t_counts n_ (v2 ||| (jlshl (1 : Int64) (v4 + (x_t_counts (ix v4))))) (v4 + (1 : Int32)))
def f_X2_streamOf (p1 : Int32) (x_t_places : Int32) (x_t_counts : Nat → Int32) : Option (Int64) :=
  f_X2_streamOf_7 x_t_places x_t_counts FU (jlshl (1 : Int64) p1) p1
set_option maxHeartbeats 4000000 in
set_option maxRecDepth 100000 in
theorem c_X2_streamOf (l : Launch) (E : EN) (a_t a_t_counts : Nat) (w_t_ends : Value) (w_t_comers : Value) (w_t_leaders : Value) (w_t_chains : Value) (x_t_places : Int32) (x_t_beginnings : Int32) (x_t_counts : Nat → Int32) (p1 : Int32) (res : Int64) (hf : f_X2_streamOf p1 x_t_places x_t_counts = some res) : CtL l yX2_streamOf cX2_streamOf 6 0 0 E [.ref a_t, .int p1] (wd_X2_streamOf E a_t a_t_counts w_t_ends w_t_comers w_t_leaders w_t_chains x_t_places x_t_beginnings x_t_counts) (wd_X2_streamOf E a_t a_t_counts w_t_ends w_t_comers w_t_leaders w_t_chains x_t_places x_t_beginnings x_t_counts) res := by
  refine CtL.of RX2 (by decide) rfl (Nat.le_of_ble_eq_true rfl) ?_
  intro p e s m below meth c A Q ls X hA hP hD hl fin
  have hx := X.1
  have hb := X.2.1
  have hl : lv_has ls 6 [(0, .ref a_t), (1, .int p1)] := hl
  have fin' : ∀ (fr0 : Int64), some fr0 = some res → ∀ (pc : Nat) (ls : Array Slot) (H : Heap) (locs : List Loc), decode cX2_streamOf pc = .ok (.lreturn, 1) → va_P E.1 vwCl (wd_X2_streamOf E a_t a_t_counts w_t_ends w_t_comers w_t_leaders w_t_chains x_t_places x_t_beginnings x_t_counts) H → va_D A (wd_X2_streamOf E a_t a_t_counts w_t_ends w_t_comers w_t_leaders w_t_chains x_t_places x_t_beginnings x_t_counts) → va_S A s.heap H locs → W p l e (rmm 0 0) s m ([.ref a_t, .int p1] : List Value).toArray below meth c H locs 0 0 Q (F0 m pc ls [.long fr0]) := by
    intro fr0 he
    cases he
    exact fin
  have L7 : ∀ (n7 : Nat) (v2 : Int64) (v4 : Int32), f_X2_streamOf_7 x_t_places x_t_counts n7 v2 v4 = some res → ∀ (H : Heap) (locs : List Loc) (ls : Array Slot), va_P E.1 vwCl (wd_X2_streamOf E a_t a_t_counts w_t_ends w_t_comers w_t_leaders w_t_chains x_t_places x_t_beginnings x_t_counts) H → va_D A (wd_X2_streamOf E a_t a_t_counts w_t_ends w_t_comers w_t_leaders w_t_chains x_t_places x_t_beginnings x_t_counts) → va_S A s.heap H locs → lv_has ls 6 [(0, .ref a_t), (2, .long v2), (4, .int v4)] → W p l e (rmm 0 0) s m ([.ref a_t, .int p1] : List Value).toArray below meth c H locs 0 0 Q (F0 m 7 ls []) := by
    intro n7
    induction n7 with
    | zero => intro v2 v4 hf; rw [f_X2_streamOf_7] at hf; cases hf
    | succ n7 ih7 =>
      intro v2 v4 hf H locs ls hP hD hS hl
      rw [f_X2_streamOf_7] at hf
      refine lv_iload hx hb dX2_streamOf_7 (lv_at hl 2 rfl) ?_
      refine lv_aload_n hx hb dX2_streamOf_9 rfl (lv_at hl 0 rfl) ?_
      refine gf_X2_33 X hP 0 rfl rfl dX2_streamOf_10 ?_
      refine lv_icmp_ge (tgt := 61) hx hb dX2_streamOf_13 (by decide) (fun c_13 => ?_) (fun c_13 => ?_)
      · have hf := if_t c_13 hf
        refine lv_lload_n hx hb dX2_streamOf_61 rfl (lv_at hl 1 rfl) ?_
        exact fin' _ hf 62 ls H locs dX2_streamOf_62 hP hD hS
      · have hf := if_f c_13 hf
        refine lv_iload hx hb dX2_streamOf_16 (lv_at hl 2 rfl) ?_
        refine lv_aload_n hx hb dX2_streamOf_18 rfl (lv_at hl 0 rfl) ?_
        refine gf_X2_9 X hP 0 rfl rfl dX2_streamOf_19 ?_
        refine lv_iload hx hb dX2_streamOf_22 (lv_at hl 2 rfl) ?_
        obtain ⟨hi24, hf⟩ := ck_some hf
        refine r_iald X hP 1 rfl hi24 dX2_streamOf_24 ?_
        refine lv_iadd hx hb dX2_streamOf_25 ?_
        refine lv_istore (lv' := [(5, .int (v4 + (x_t_counts (ix v4)))), (0, .ref a_t), (2, .long v2), (4, .int v4)]) hx hb dX2_streamOf_26 hl (by decide) rfl (fun ls hl => ?_)
        refine lv_lload_n hx hb dX2_streamOf_28 rfl (lv_at hl 2 rfl) ?_
        refine lv_iload hx hb dX2_streamOf_29 (lv_at hl 3 rfl) ?_
        refine lv_lushr (v := (jlushr v2 v4)) hx hb dX2_streamOf_31 rfl ?_
        refine lv_lconst (v := (1 : Int64)) hx hb dX2_streamOf_32 (by decide) ?_
        refine lv_land hx hb dX2_streamOf_33 ?_
        refine lv_lconst (v := (0 : Int64)) hx hb dX2_streamOf_34 (by decide) ?_
        refine W.lcmp hx hb dX2_streamOf_35 ?_
        refine lv_if_eq (tgt := 55) hx hb dX2_streamOf_36 (by decide) (fun c_36 => ?_) (fun c_36 => ?_)
        · have hf := if_t c_36 hf
          refine lv_iinc (v := (v4 + (1 : Int32))) (lv' := [(4, .int (v4 + (1 : Int32))), (5, .int (v4 + (x_t_counts (ix v4)))), (0, .ref a_t), (2, .long v2)]) hx hb dX2_streamOf_55 hl (k := 3) rfl rfl (by decide) rfl (fun ls hl => ?_)
          refine lv_goto (tgt := 7) hx hb dX2_streamOf_58 (by decide) ?_
          exact ih7 v2 (v4 + (1 : Int32)) hf H locs ls hP hD hS (lv_sub hl [2, 3, 0] rfl)
        · have hf := if_f c_36 hf
          refine lv_iload hx hb dX2_streamOf_39 (lv_at hl 0 rfl) ?_
          refine lv_aload_n hx hb dX2_streamOf_41 rfl (lv_at hl 1 rfl) ?_
          refine gf_X2_33 X hP 0 rfl rfl dX2_streamOf_42 ?_
          refine lv_icmp_ge (tgt := 55) hx hb dX2_streamOf_45 (by decide) (fun c_45 => ?_) (fun c_45 => ?_)
          · have hf := if_t c_45 hf
            refine lv_iinc (v := (v4 + (1 : Int32))) (lv' := [(4, .int (v4 + (1 : Int32))), (5, .int (v4 + (x_t_counts (ix v4)))), (0, .ref a_t), (2, .long v2)]) hx hb dX2_streamOf_55 hl (k := 3) rfl rfl (by decide) rfl (fun ls hl => ?_)
            refine lv_goto (tgt := 7) hx hb dX2_streamOf_58 (by decide) ?_
            exact ih7 v2 (v4 + (1 : Int32)) hf H locs ls hP hD hS (lv_sub hl [2, 3, 0] rfl)
          · have hf := if_f c_45 hf
            refine lv_lload_n hx hb dX2_streamOf_48 rfl (lv_at hl 2 rfl) ?_
            refine lv_lconst (v := (1 : Int64)) hx hb dX2_streamOf_49 (by decide) ?_
            refine lv_iload hx hb dX2_streamOf_50 (lv_at hl 0 rfl) ?_
            refine lv_lshl (v := (jlshl (1 : Int64) (v4 + (x_t_counts (ix v4))))) hx hb dX2_streamOf_52 rfl ?_
            refine lv_lor hx hb dX2_streamOf_53 ?_
            refine lv_lstore_n (lv' := [(2, .long (v2 ||| (jlshl (1 : Int64) (v4 + (x_t_counts (ix v4)))))), (5, .int (v4 + (x_t_counts (ix v4)))), (0, .ref a_t), (4, .int v4)]) hx hb dX2_streamOf_54 rfl hl (by decide) rfl (fun ls hl => ?_)
            refine lv_iinc (v := (v4 + (1 : Int32))) (lv' := [(4, .int (v4 + (1 : Int32))), (2, .long (v2 ||| (jlshl (1 : Int64) (v4 + (x_t_counts (ix v4)))))), (5, .int (v4 + (x_t_counts (ix v4)))), (0, .ref a_t)]) hx hb dX2_streamOf_55 hl (k := 3) rfl rfl (by decide) rfl (fun ls hl => ?_)
            refine lv_goto (tgt := 7) hx hb dX2_streamOf_58 (by decide) ?_
            exact ih7 (v2 ||| (jlshl (1 : Int64) (v4 + (x_t_counts (ix v4))))) (v4 + (1 : Int32)) hf H locs ls hP hD hS (lv_sub hl [3, 1, 0] rfl)
  have hS : va_S A s.heap s.heap [] := va_S.rf
  obtain ⟨H, hH9⟩ : ∃ z, z = s.heap := ⟨_, rfl⟩
  obtain ⟨locs, hL9⟩ : ∃ z : List Loc, z = [] := ⟨_, rfl⟩
  rw [← hL9]
  rw [← hL9] at hS
  have hP : va_P E.1 vwCl (wd_X2_streamOf E a_t a_t_counts w_t_ends w_t_comers w_t_leaders w_t_chains x_t_places x_t_beginnings x_t_counts) H := by rw [hH9]; exact hP
  have hS : va_S A s.heap H locs := by rw [hH9]; exact hS
  suffices hgoal : W p l e (rmm 0 0) s m ([.ref a_t, .int p1] : List Value).toArray below meth c H locs 0 0 Q (F0 m 0 ls []) by rw [hH9] at hgoal; exact hgoal
  rw [f_X2_streamOf] at hf
  refine lv_lconst (v := (1 : Int64)) hx hb dX2_streamOf_0 (by decide) ?_
  refine lv_iload_n hx hb dX2_streamOf_1 rfl (lv_at hl 1 rfl) ?_
  refine lv_lshl (v := (jlshl (1 : Int64) p1)) hx hb dX2_streamOf_2 rfl ?_
  refine lv_lstore_n (lv' := [(2, .long (jlshl (1 : Int64) p1)), (0, .ref a_t), (1, .int p1)]) hx hb dX2_streamOf_3 rfl hl (by decide) rfl (fun ls hl => ?_)
  refine lv_iload_n hx hb dX2_streamOf_4 rfl (lv_at hl 2 rfl) ?_
  refine lv_istore (lv' := [(4, .int p1), (2, .long (jlshl (1 : Int64) p1)), (0, .ref a_t), (1, .int p1)]) hx hb dX2_streamOf_5 hl (by decide) rfl (fun ls hl => ?_)
  exact L7 FU (jlshl (1 : Int64) p1) p1 hf H locs ls hP hD hS (lv_sub hl [2, 1, 0] rfl)
abbrev wd_X2_passedByAll (E : EN) (a_t : Nat) (a_t_counts : Nat) (w_t_ends : Value) (w_t_comers : Value) (w_t_leaders : Value) (w_t_chains : Value) (x_t_places : Int32) (x_t_beginnings : Int32) (x_t_counts : Nat → Int32) : va_W := [(a_t, e_O 2 [.ref a_t_counts, w_t_ends, w_t_comers, w_t_leaders, w_t_chains, .int x_t_places, .int x_t_beginnings]), (a_t_counts, e_I E 40 x_t_counts)]
def f_X2_passedByAll_6 (x_t_places : Int32) (x_t_beginnings : Int32) (x_t_counts : Nat → Int32)  : Nat → Int64 → Int32 → Option (Int64)
  | 0, _, _ => none
  | n_ + 1, v1, v3 =>
    if x_t_beginnings ≤ v3 then
      some v1
    else
      Option.bind (f_X2_streamOf v3 x_t_places x_t_counts) (fun r17 =>
      f_X2_passedByAll_6 x_t_places x_t_beginnings x_t_counts n_ (v1 &&& r17) (v3 + (1 : Int32)))
def f_X2_passedByAll (x_t_places : Int32) (x_t_beginnings : Int32) (x_t_counts : Nat → Int32) : Option (Int64) :=
  f_X2_passedByAll_6 x_t_places x_t_beginnings x_t_counts FU (-1 : Int64) (0 : Int32)
set_option maxHeartbeats 4000000 in
set_option maxRecDepth 100000 in
theorem c_X2_passedByAll (l : Launch) (E : EN) (a_t a_t_counts : Nat) (w_t_ends : Value) (w_t_comers : Value) (w_t_leaders : Value) (w_t_chains : Value) (x_t_places : Int32) (x_t_beginnings : Int32) (x_t_counts : Nat → Int32)  (res : Int64) (hf : f_X2_passedByAll x_t_places x_t_beginnings x_t_counts = some res) : CtL l yX2_passedByAll cX2_passedByAll 4 1 25 E [.ref a_t] (wd_X2_passedByAll E a_t a_t_counts w_t_ends w_t_comers w_t_leaders w_t_chains x_t_places x_t_beginnings x_t_counts) (wd_X2_passedByAll E a_t a_t_counts w_t_ends w_t_comers w_t_leaders w_t_chains x_t_places x_t_beginnings x_t_counts) res := by
  refine CtL.of RX2 (by decide) rfl (Nat.le_of_ble_eq_true rfl) ?_
  intro p e s m below meth c A Q ls X hA hP hD hl fin
  have hx := X.1
  have hb := X.2.1
  have hl : lv_has ls 4 [(0, .ref a_t)] := hl
  have fin' : ∀ (fr0 : Int64), some fr0 = some res → ∀ (pc : Nat) (ls : Array Slot) (H : Heap) (locs : List Loc), decode cX2_passedByAll pc = .ok (.lreturn, 1) → va_P E.1 vwCl (wd_X2_passedByAll E a_t a_t_counts w_t_ends w_t_comers w_t_leaders w_t_chains x_t_places x_t_beginnings x_t_counts) H → va_D A (wd_X2_passedByAll E a_t a_t_counts w_t_ends w_t_comers w_t_leaders w_t_chains x_t_places x_t_beginnings x_t_counts) → va_S A s.heap H locs → W p l e (rmm 1 25) s m ([.ref a_t] : List Value).toArray below meth c H locs 0 0 Q (F0 m pc ls [.long fr0]) := by
    intro fr0 he
    cases he
    exact fin
  have L6 : ∀ (n6 : Nat) (v1 : Int64) (v3 : Int32), f_X2_passedByAll_6 x_t_places x_t_beginnings x_t_counts n6 v1 v3 = some res → ∀ (H : Heap) (locs : List Loc) (ls : Array Slot), va_P E.1 vwCl (wd_X2_passedByAll E a_t a_t_counts w_t_ends w_t_comers w_t_leaders w_t_chains x_t_places x_t_beginnings x_t_counts) H → va_D A (wd_X2_passedByAll E a_t a_t_counts w_t_ends w_t_comers w_t_leaders w_t_chains x_t_places x_t_beginnings x_t_counts) → va_S A s.heap H locs → lv_has ls 4 [(0, .ref a_t), (1, .long v1), (3, .int v3)] → W p l e (rmm 1 25) s m ([.ref a_t] : List Value).toArray below meth c H locs 0 0 Q (F0 m 6 ls []) := by
    intro n6
    induction n6 with
    | zero => intro v1 v3 hf; rw [f_X2_passedByAll_6] at hf; cases hf
    | succ n6 ih6 =>
      intro v1 v3 hf H locs ls hP hD hS hl
      rw [f_X2_passedByAll_6] at hf
      refine lv_iload_n hx hb dX2_passedByAll_6 rfl (lv_at hl 2 rfl) ?_
      refine lv_aload_n hx hb dX2_passedByAll_7 rfl (lv_at hl 0 rfl) ?_
      refine gf_X2_37 X hP 0 rfl rfl dX2_passedByAll_8 ?_
      refine lv_icmp_ge (tgt := 28) hx hb dX2_passedByAll_11 (by decide) (fun c_11 => ?_) (fun c_11 => ?_)
      · have hf := if_t c_11 hf
        refine lv_lload_n hx hb dX2_passedByAll_28 rfl (lv_at hl 1 rfl) ?_
        exact fin' _ hf 29 ls H locs dX2_passedByAll_29 hP hD hS
      · have hf := if_f c_11 hf
        refine lv_lload_n hx hb dX2_passedByAll_14 rfl (lv_at hl 1 rfl) ?_
        refine lv_aload_n hx hb dX2_passedByAll_15 rfl (lv_at hl 0 rfl) ?_
        refine lv_iload_n hx hb dX2_passedByAll_16 rfl (lv_at hl 2 rfl) ?_
        obtain ⟨r17, hc17, hf⟩ := bd_some hf
        refine cV_L X hA hP hD hS hl.1 (c_X2_streamOf l E a_t a_t_counts w_t_ends w_t_comers w_t_leaders w_t_chains x_t_places x_t_beginnings x_t_counts v3 r17 hc17) 1 k_436 mw_X2_streamOf hd_X2_streamOf ⟨Nat.le_of_ble_eq_true rfl, Nat.le_of_ble_eq_true rfl⟩ [0, 1] [] [0, 1] rfl rfl (wr := []) rfl rfl rfl 2 0 rfl rfl rfl rfl rfl (Nat.le_of_ble_eq_true rfl) rfl (ws' := (wd_X2_passedByAll E a_t a_t_counts w_t_ends w_t_comers w_t_leaders w_t_chains x_t_places x_t_beginnings x_t_counts)) rfl ⟨Nat.le_of_ble_eq_true rfl, Nat.le_of_ble_eq_true rfl⟩ dX2_passedByAll_17 (fun H locs hP hD hS => ?_)
        refine lv_land hx hb dX2_passedByAll_20 ?_
        refine lv_lstore_n (lv' := [(1, .long (v1 &&& r17)), (0, .ref a_t), (3, .int v3)]) hx hb dX2_passedByAll_21 rfl hl (by decide) rfl (fun ls hl => ?_)
        refine lv_iinc (v := (v3 + (1 : Int32))) (lv' := [(3, .int (v3 + (1 : Int32))), (1, .long (v1 &&& r17)), (0, .ref a_t)]) hx hb dX2_passedByAll_22 hl (k := 2) rfl rfl (by decide) rfl (fun ls hl => ?_)
        refine lv_goto (tgt := 6) hx hb dX2_passedByAll_25 (by decide) ?_
        exact ih6 (v1 &&& r17) (v3 + (1 : Int32)) hf H locs ls hP hD hS (lv_sub hl [2, 1, 0] rfl)
  have hS : va_S A s.heap s.heap [] := va_S.rf
  obtain ⟨H, hH9⟩ : ∃ z, z = s.heap := ⟨_, rfl⟩
  obtain ⟨locs, hL9⟩ : ∃ z : List Loc, z = [] := ⟨_, rfl⟩
  rw [← hL9]
  rw [← hL9] at hS
  have hP : va_P E.1 vwCl (wd_X2_passedByAll E a_t a_t_counts w_t_ends w_t_comers w_t_leaders w_t_chains x_t_places x_t_beginnings x_t_counts) H := by rw [hH9]; exact hP
  have hS : va_S A s.heap H locs := by rw [hH9]; exact hS
  suffices hgoal : W p l e (rmm 1 25) s m ([.ref a_t] : List Value).toArray below meth c H locs 0 0 Q (F0 m 0 ls []) by rw [hH9] at hgoal; exact hgoal
  rw [f_X2_passedByAll] at hf
  refine lv_ldc2 (v := (-1 : Int64)) hx hb X.2.2.2.1 (X.2.2.2.2.1 _ k_435) dX2_passedByAll_0 ?_
  refine lv_lstore_n (lv' := [(1, .long (-1 : Int64)), (0, .ref a_t)]) hx hb dX2_passedByAll_3 rfl hl (by decide) rfl (fun ls hl => ?_)
  refine lv_iconst (v := (0 : Int32)) hx hb dX2_passedByAll_4 (by decide) ?_
  refine lv_istore_n (lv' := [(3, .int (0 : Int32)), (1, .long (-1 : Int64)), (0, .ref a_t)]) hx hb dX2_passedByAll_5 rfl hl (by decide) rfl (fun ls hl => ?_)
  exact L6 FU (-1 : Int64) (0 : Int32) hf H locs ls hP hD hS (lv_sub hl [2, 1, 0] rfl)
abbrev wd_X2_mindsBy (E : EN) (a_t : Nat) (a_t_ends : Nat) (a_t_comers : Nat) (w_t_counts : Value) (w_t_leaders : Value) (w_t_chains : Value) (x_t_places : Int32) (x_t_beginnings : Int32) (x_t_ends : Nat → Int32) (x_t_comers : Nat → Int32) : va_W := [(a_t, e_O 2 [w_t_counts, .ref a_t_ends, .ref a_t_comers, w_t_leaders, w_t_chains, .int x_t_places, .int x_t_beginnings]), (a_t_ends, e_I E 40 x_t_ends), (a_t_comers, e_I E 40 x_t_comers)]
def f_X2_mindsBy (p1 : Int32) (p2 : Int32) (x_t_places : Int32) (x_t_ends : Nat → Int32) (x_t_comers : Nat → Int32) : Option (Int32) :=
  Option.bind (f_X2_endBy p1 p2 x_t_places x_t_ends) (fun r3 =>
  ck (inB p1 40) (
  if r3 = (x_t_ends (ix p1)) then
    some (0 : Int32)
  else
    some (x_t_comers (ix p1))))
set_option maxHeartbeats 4000000 in
set_option maxRecDepth 100000 in
theorem c_X2_mindsBy (l : Launch) (E : EN) (a_t a_t_ends a_t_comers : Nat) (w_t_counts : Value) (w_t_leaders : Value) (w_t_chains : Value) (x_t_places : Int32) (x_t_beginnings : Int32) (x_t_ends : Nat → Int32) (x_t_comers : Nat → Int32) (p1 : Int32) (p2 : Int32) (res : Int32) (hf : f_X2_mindsBy p1 p2 x_t_places x_t_ends x_t_comers = some res) : CtI l yX2_mindsBy cX2_mindsBy 3 .int 1 23 E [.ref a_t, .int p1, .int p2] (wd_X2_mindsBy E a_t a_t_ends a_t_comers w_t_counts w_t_leaders w_t_chains x_t_places x_t_beginnings x_t_ends x_t_comers) (wd_X2_mindsBy E a_t a_t_ends a_t_comers w_t_counts w_t_leaders w_t_chains x_t_places x_t_beginnings x_t_ends x_t_comers) res := by
  refine CtI.of RX2 (by decide) rfl (Nat.le_of_ble_eq_true rfl) ?_
  intro p e s m below meth c A Q ls X hA hP hD hl fin
  have hx := X.1
  have hb := X.2.1
  have hl : lv_has ls 3 [(0, .ref a_t), (1, .int p1), (2, .int p2)] := hl
  have fin' : ∀ (fr0 : Int32), some fr0 = some res → ∀ (pc : Nat) (ls : Array Slot) (H : Heap) (locs : List Loc), decode cX2_mindsBy pc = .ok (.ireturn, 1) → narrow .int (.int fr0) = .int fr0 → va_P E.1 vwCl (wd_X2_mindsBy E a_t a_t_ends a_t_comers w_t_counts w_t_leaders w_t_chains x_t_places x_t_beginnings x_t_ends x_t_comers) H → va_D A (wd_X2_mindsBy E a_t a_t_ends a_t_comers w_t_counts w_t_leaders w_t_chains x_t_places x_t_beginnings x_t_ends x_t_comers) → va_S A s.heap H locs → W p l e (rmm 1 23) s m ([.ref a_t, .int p1, .int p2] : List Value).toArray below meth c H locs 0 0 Q (F0 m pc ls [.int fr0]) := by
    intro fr0 he
    cases he
    exact fin
  have hS : va_S A s.heap s.heap [] := va_S.rf
  obtain ⟨H, hH9⟩ : ∃ z, z = s.heap := ⟨_, rfl⟩
  obtain ⟨locs, hL9⟩ : ∃ z : List Loc, z = [] := ⟨_, rfl⟩
  rw [← hL9]
  rw [← hL9] at hS
  have hP : va_P E.1 vwCl (wd_X2_mindsBy E a_t a_t_ends a_t_comers w_t_counts w_t_leaders w_t_chains x_t_places x_t_beginnings x_t_ends x_t_comers) H := by rw [hH9]; exact hP
  have hS : va_S A s.heap H locs := by rw [hH9]; exact hS
  suffices hgoal : W p l e (rmm 1 23) s m ([.ref a_t, .int p1, .int p2] : List Value).toArray below meth c H locs 0 0 Q (F0 m 0 ls []) by rw [hH9] at hgoal; exact hgoal
  rw [f_X2_mindsBy] at hf
  refine lv_aload_n hx hb dX2_mindsBy_0 rfl (lv_at hl 0 rfl) ?_
  refine lv_iload_n hx hb dX2_mindsBy_1 rfl (lv_at hl 1 rfl) ?_
  refine lv_iload_n hx hb dX2_mindsBy_2 rfl (lv_at hl 2 rfl) ?_
  obtain ⟨r3, hc3, hf⟩ := bd_some hf
  refine cV_I X hA hP hD hS hl.1 (c_X2_endBy l E a_t a_t_ends w_t_counts (.ref a_t_comers) w_t_leaders w_t_chains x_t_places x_t_beginnings x_t_ends p1 p2 r3 hc3) 2 k_393 mw_X2_endBy hd_X2_endBy ⟨Nat.le_of_ble_eq_true rfl, Nat.le_of_ble_eq_true rfl⟩ [0, 1] [2] [1, 2, 0] rfl rfl (wr := [2].filterMap (fun i => (wd_X2_mindsBy E a_t a_t_ends a_t_comers w_t_counts w_t_leaders w_t_chains x_t_places x_t_beginnings x_t_ends x_t_comers)[i]?)) rfl rfl rfl 2 0 rfl rfl rfl rfl rfl (Nat.le_of_ble_eq_true rfl) rfl (ws' := (wd_X2_mindsBy E a_t a_t_ends a_t_comers w_t_counts w_t_leaders w_t_chains x_t_places x_t_beginnings x_t_ends x_t_comers)) rfl ⟨Nat.le_of_ble_eq_true rfl, Nat.le_of_ble_eq_true rfl⟩ dX2_mindsBy_3 (fun H locs hP hD hS => ?_)
  refine lv_aload_n hx hb dX2_mindsBy_6 rfl (lv_at hl 0 rfl) ?_
  refine gf_X2_15 X hP 0 rfl rfl dX2_mindsBy_7 ?_
  refine lv_iload_n hx hb dX2_mindsBy_10 rfl (lv_at hl 1 rfl) ?_
  obtain ⟨hi11, hf⟩ := ck_some hf
  refine r_iald X hP 1 rfl hi11 dX2_mindsBy_11 ?_
  refine lv_icmp_ne (tgt := 19) hx hb dX2_mindsBy_12 (by decide) (fun c_12 => ?_) (fun c_12 => ?_)
  · have hf := if_f c_12 hf
    refine lv_aload_n hx hb dX2_mindsBy_19 rfl (lv_at hl 0 rfl) ?_
    refine gf_X2_18 X hP 0 rfl rfl dX2_mindsBy_20 ?_
    refine lv_iload_n hx hb dX2_mindsBy_23 rfl (lv_at hl 1 rfl) ?_
    refine r_iald X hP 2 rfl hi11 dX2_mindsBy_24 ?_
    exact fin' _ hf 25 ls H locs dX2_mindsBy_25 rfl hP hD hS
  · have hf := if_t c_12 hf
    refine lv_iconst (v := (0 : Int32)) hx hb dX2_mindsBy_15 (by decide) ?_
    refine lv_goto (tgt := 25) hx hb dX2_mindsBy_16 (by decide) ?_
    exact fin' _ hf 25 ls H locs dX2_mindsBy_25 rfl hP hD hS
abbrev wd_X2_mostAtOneEnd (E : EN) (a_t : Nat) (a_t_ends : Nat) (a_t_comers : Nat) (w_t_counts : Value) (w_t_leaders : Value) (w_t_chains : Value) (x_t_places : Int32) (x_t_beginnings : Int32) (x_t_ends : Nat → Int32) (x_t_comers : Nat → Int32) : va_W := [(a_t, e_O 2 [w_t_counts, .ref a_t_ends, .ref a_t_comers, w_t_leaders, w_t_chains, .int x_t_places, .int x_t_beginnings]), (a_t_ends, e_I E 40 x_t_ends), (a_t_comers, e_I E 40 x_t_comers)]
def f_X2_mostAtOneEnd_4 (x_t_places : Int32) (x_t_ends : Nat → Int32) (x_t_comers : Nat → Int32)  : Nat → Int32 → Int32 → Option (Int32)
  | 0, _, _ => none
  | n_ + 1, v1, v2 =>
    if x_t_places ≤ v2 then
      some v1
    else
      ck (inB v2 40) (
      if (x_t_ends (ix v2)) = v2 then
        f_X2_mostAtOneEnd_4 x_t_places x_t_ends x_t_comers n_ (if v1 < (x_t_comers (ix v2)) then (x_t_comers (ix v2)) else v1) (v2 + (1 : Int32))
      else
        f_X2_mostAtOneEnd_4 x_t_places x_t_ends x_t_comers n_ v1 (v2 + (1 : Int32)))
def f_X2_mostAtOneEnd (x_t_places : Int32) (x_t_ends : Nat → Int32) (x_t_comers : Nat → Int32) : Option (Int32) :=
  f_X2_mostAtOneEnd_4 x_t_places x_t_ends x_t_comers FU (0 : Int32) (0 : Int32)
set_option maxHeartbeats 4000000 in
set_option maxRecDepth 100000 in
theorem c_X2_mostAtOneEnd (l : Launch) (E : EN) (a_t a_t_ends a_t_comers : Nat) (w_t_counts : Value) (w_t_leaders : Value) (w_t_chains : Value) (x_t_places : Int32) (x_t_beginnings : Int32) (x_t_ends : Nat → Int32) (x_t_comers : Nat → Int32)  (res : Int32) (hf : f_X2_mostAtOneEnd x_t_places x_t_ends x_t_comers = some res) : CtI l yX2_mostAtOneEnd cX2_mostAtOneEnd 3 .int 1 40 E [.ref a_t] (wd_X2_mostAtOneEnd E a_t a_t_ends a_t_comers w_t_counts w_t_leaders w_t_chains x_t_places x_t_beginnings x_t_ends x_t_comers) (wd_X2_mostAtOneEnd E a_t a_t_ends a_t_comers w_t_counts w_t_leaders w_t_chains x_t_places x_t_beginnings x_t_ends x_t_comers) res := by
  refine CtI.of RX2 (by decide) rfl (Nat.le_of_ble_eq_true rfl) ?_
  intro p e s m below meth c A Q ls X hA hP hD hl fin
  have hx := X.1
  have hb := X.2.1
  have hl : lv_has ls 3 [(0, .ref a_t)] := hl
  have fin' : ∀ (fr0 : Int32), some fr0 = some res → ∀ (pc : Nat) (ls : Array Slot) (H : Heap) (locs : List Loc), decode cX2_mostAtOneEnd pc = .ok (.ireturn, 1) → narrow .int (.int fr0) = .int fr0 → va_P E.1 vwCl (wd_X2_mostAtOneEnd E a_t a_t_ends a_t_comers w_t_counts w_t_leaders w_t_chains x_t_places x_t_beginnings x_t_ends x_t_comers) H → va_D A (wd_X2_mostAtOneEnd E a_t a_t_ends a_t_comers w_t_counts w_t_leaders w_t_chains x_t_places x_t_beginnings x_t_ends x_t_comers) → va_S A s.heap H locs → W p l e (rmm 1 40) s m ([.ref a_t] : List Value).toArray below meth c H locs 0 0 Q (F0 m pc ls [.int fr0]) := by
    intro fr0 he
    cases he
    exact fin
  have L4 : ∀ (n4 : Nat) (v1 : Int32) (v2 : Int32), f_X2_mostAtOneEnd_4 x_t_places x_t_ends x_t_comers n4 v1 v2 = some res → ∀ (H : Heap) (locs : List Loc) (ls : Array Slot), va_P E.1 vwCl (wd_X2_mostAtOneEnd E a_t a_t_ends a_t_comers w_t_counts w_t_leaders w_t_chains x_t_places x_t_beginnings x_t_ends x_t_comers) H → va_D A (wd_X2_mostAtOneEnd E a_t a_t_ends a_t_comers w_t_counts w_t_leaders w_t_chains x_t_places x_t_beginnings x_t_ends x_t_comers) → va_S A s.heap H locs → lv_has ls 3 [(0, .ref a_t), (1, .int v1), (2, .int v2)] → W p l e (rmm 1 40) s m ([.ref a_t] : List Value).toArray below meth c H locs 0 0 Q (F0 m 4 ls []) := by
    intro n4
    induction n4 with
    | zero => intro v1 v2 hf; rw [f_X2_mostAtOneEnd_4] at hf; cases hf
    | succ n4 ih4 =>
      intro v1 v2 hf H locs ls hP hD hS hl
      rw [f_X2_mostAtOneEnd_4] at hf
      refine lv_iload_n hx hb dX2_mostAtOneEnd_4 rfl (lv_at hl 2 rfl) ?_
      refine lv_aload_n hx hb dX2_mostAtOneEnd_5 rfl (lv_at hl 0 rfl) ?_
      refine gf_X2_33 X hP 0 rfl rfl dX2_mostAtOneEnd_6 ?_
      refine lv_icmp_ge (tgt := 39) hx hb dX2_mostAtOneEnd_9 (by decide) (fun c_9 => ?_) (fun c_9 => ?_)
      · have hf := if_t c_9 hf
        refine lv_iload_n hx hb dX2_mostAtOneEnd_39 rfl (lv_at hl 1 rfl) ?_
        exact fin' _ hf 40 ls H locs dX2_mostAtOneEnd_40 rfl hP hD hS
      · have hf := if_f c_9 hf
        refine lv_aload_n hx hb dX2_mostAtOneEnd_12 rfl (lv_at hl 0 rfl) ?_
        refine gf_X2_15 X hP 0 rfl rfl dX2_mostAtOneEnd_13 ?_
        refine lv_iload_n hx hb dX2_mostAtOneEnd_16 rfl (lv_at hl 2 rfl) ?_
        obtain ⟨hi17, hf⟩ := ck_some hf
        refine r_iald X hP 1 rfl hi17 dX2_mostAtOneEnd_17 ?_
        refine lv_iload_n hx hb dX2_mostAtOneEnd_18 rfl (lv_at hl 2 rfl) ?_
        refine lv_icmp_ne (tgt := 33) hx hb dX2_mostAtOneEnd_19 (by decide) (fun c_19 => ?_) (fun c_19 => ?_)
        · have hf := if_f c_19 hf
          refine lv_iinc (v := (v2 + (1 : Int32))) (lv' := [(2, .int (v2 + (1 : Int32))), (0, .ref a_t), (1, .int v1)]) hx hb dX2_mostAtOneEnd_33 hl (k := 2) rfl rfl (by decide) rfl (fun ls hl => ?_)
          refine lv_goto (tgt := 4) hx hb dX2_mostAtOneEnd_36 (by decide) ?_
          exact ih4 v1 (v2 + (1 : Int32)) hf H locs ls hP hD hS (lv_sub hl [1, 2, 0] rfl)
        · have hf := if_t c_19 hf
          refine lv_iload_n hx hb dX2_mostAtOneEnd_22 rfl (lv_at hl 1 rfl) ?_
          refine lv_aload_n hx hb dX2_mostAtOneEnd_23 rfl (lv_at hl 0 rfl) ?_
          refine gf_X2_18 X hP 0 rfl rfl dX2_mostAtOneEnd_24 ?_
          refine lv_iload_n hx hb dX2_mostAtOneEnd_27 rfl (lv_at hl 2 rfl) ?_
          refine r_iald X hP 2 rfl hi17 dX2_mostAtOneEnd_28 ?_
          refine r_mmax X hl.1 k_397 (Nat.le_of_ble_eq_true rfl) (Nat.le_of_ble_eq_true rfl) (Nat.le_of_ble_eq_true rfl) (Nat.le_of_ble_eq_true rfl) dX2_mostAtOneEnd_29 ?_
          refine lv_istore_n (lv' := [(1, .int (if v1 < (x_t_comers (ix v2)) then (x_t_comers (ix v2)) else v1)), (0, .ref a_t), (2, .int v2)]) hx hb dX2_mostAtOneEnd_32 rfl hl (by decide) rfl (fun ls hl => ?_)
          refine lv_iinc (v := (v2 + (1 : Int32))) (lv' := [(2, .int (v2 + (1 : Int32))), (1, .int (if v1 < (x_t_comers (ix v2)) then (x_t_comers (ix v2)) else v1)), (0, .ref a_t)]) hx hb dX2_mostAtOneEnd_33 hl (k := 2) rfl rfl (by decide) rfl (fun ls hl => ?_)
          refine lv_goto (tgt := 4) hx hb dX2_mostAtOneEnd_36 (by decide) ?_
          exact ih4 (if v1 < (x_t_comers (ix v2)) then (x_t_comers (ix v2)) else v1) (v2 + (1 : Int32)) hf H locs ls hP hD hS (lv_sub hl [2, 1, 0] rfl)
  have hS : va_S A s.heap s.heap [] := va_S.rf
  obtain ⟨H, hH9⟩ : ∃ z, z = s.heap := ⟨_, rfl⟩
  obtain ⟨locs, hL9⟩ : ∃ z : List Loc, z = [] := ⟨_, rfl⟩
  rw [← hL9]
  rw [← hL9] at hS
  have hP : va_P E.1 vwCl (wd_X2_mostAtOneEnd E a_t a_t_ends a_t_comers w_t_counts w_t_leaders w_t_chains x_t_places x_t_beginnings x_t_ends x_t_comers) H := by rw [hH9]; exact hP
  have hS : va_S A s.heap H locs := by rw [hH9]; exact hS
  suffices hgoal : W p l e (rmm 1 40) s m ([.ref a_t] : List Value).toArray below meth c H locs 0 0 Q (F0 m 0 ls []) by rw [hH9] at hgoal; exact hgoal
  rw [f_X2_mostAtOneEnd] at hf
  refine lv_iconst (v := (0 : Int32)) hx hb dX2_mostAtOneEnd_0 (by decide) ?_
  refine lv_istore_n (lv' := [(1, .int (0 : Int32)), (0, .ref a_t)]) hx hb dX2_mostAtOneEnd_1 rfl hl (by decide) rfl (fun ls hl => ?_)
  refine lv_iconst (v := (0 : Int32)) hx hb dX2_mostAtOneEnd_2 (by decide) ?_
  refine lv_istore_n (lv' := [(2, .int (0 : Int32)), (1, .int (0 : Int32)), (0, .ref a_t)]) hx hb dX2_mostAtOneEnd_3 rfl hl (by decide) rfl (fun ls hl => ?_)
  exact L4 FU (0 : Int32) (0 : Int32) hf H locs ls hP hD hS (lv_sub hl [2, 1, 0] rfl)
