abbrev wd_X0_land (E : EN) (a_t : Nat) (a_t_next : Nat) (w_t_now : Value) (x_t_won : Int64) (x_t_together : Int64) (x_t_next : Nat → Int64) : va_W := [(a_t, e_O 0 [w_t_now, .ref a_t_next, .long x_t_won, .long x_t_together]), (a_t_next, e_J E 1024 x_t_next)]
def f_X0_land (p1 : Int32) (p2 : Int32) (p3 : Int32) (p4 : Int32) (p5 : Int64) (x_t_next : Nat → Int64) : Option ((Nat → Int64)) :=
  if p3 ≤ (p1 + p2) then
    some x_t_next
  else
    ck (inB (p4 ||| ((1 : Int32) <<< ((p2 - (1 : Int32)) &&& 31))) 1024) (
    some (vp_updL x_t_next (ix (p4 ||| ((1 : Int32) <<< ((p2 - (1 : Int32)) &&& 31)))) ((x_t_next (ix (p4 ||| ((1 : Int32) <<< ((p2 - (1 : Int32)) &&& 31))))) + p5)))
set_option maxHeartbeats 4000000 in
set_option maxRecDepth 100000 in
theorem c_X0_land (l : Launch) (E : EN) (a_t a_t_next : Nat) (w_t_now : Value) (x_t_won : Int64) (x_t_together : Int64) (x_t_next : Nat → Int64) (p1 : Int32) (p2 : Int32) (p3 : Int32) (p4 : Int32) (p5 : Int64) (res : (Nat → Int64)) (hf : f_X0_land p1 p2 p3 p4 p5 x_t_next = some res) : CtV l yX0_land cX0_land 7 0 0 E [.ref a_t, .int p1, .int p2, .int p3, .int p4, .long p5] (wd_X0_land E a_t a_t_next w_t_now x_t_won x_t_together x_t_next) (wd_X0_land E a_t a_t_next w_t_now x_t_won x_t_together res) := by
  refine CtV.of RX0 (by decide) rfl (Nat.le_of_ble_eq_true rfl) ?_
  intro p e s m below meth c A Q ls X hA hP hD hl fin
  have hx := X.1
  have hb := X.2.1
  have hl : lv_has ls 7 [(0, .ref a_t), (1, .int p1), (2, .int p2), (3, .int p3), (4, .int p4), (5, .long p5)] := hl
  have fin' : ∀ (fr0 : (Nat → Int64)), some fr0 = some res → ∀ (pc : Nat) (ls : Array Slot) (H : Heap) (locs : List Loc), decode cX0_land pc = .ok (.return_, 1) → va_P E.1 vwCl (wd_X0_land E a_t a_t_next w_t_now x_t_won x_t_together fr0) H → va_D A (wd_X0_land E a_t a_t_next w_t_now x_t_won x_t_together fr0) → va_S A s.heap H locs → W p l e (rmm 0 0) s m ([.ref a_t, .int p1, .int p2, .int p3, .int p4, .long p5] : List Value).toArray below meth c H locs 0 0 Q (F0 m pc ls []) := by
    intro fr0 he
    cases he
    exact fin
  have hS : va_S A s.heap s.heap [] := va_S.rf
  obtain ⟨H, hH9⟩ : ∃ z, z = s.heap := ⟨_, rfl⟩
  obtain ⟨locs, hL9⟩ : ∃ z : List Loc, z = [] := ⟨_, rfl⟩
  rw [← hL9]
  rw [← hL9] at hS
  have hP : va_P E.1 vwCl (wd_X0_land E a_t a_t_next w_t_now x_t_won x_t_together x_t_next) H := by rw [hH9]; exact hP
  have hS : va_S A s.heap H locs := by rw [hH9]; exact hS
  suffices hgoal : W p l e (rmm 0 0) s m ([.ref a_t, .int p1, .int p2, .int p3, .int p4, .long p5] : List Value).toArray below meth c H locs 0 0 Q (F0 m 0 ls []) by rw [hH9] at hgoal; exact hgoal
  rw [f_X0_land] at hf
  refine lv_iload_n hx hb dX0_land_0 rfl (lv_at hl 1 rfl) ?_
  refine lv_iload_n hx hb dX0_land_1 rfl (lv_at hl 2 rfl) ?_
  refine lv_iadd hx hb dX0_land_2 ?_
  refine lv_iload_n hx hb dX0_land_3 rfl (lv_at hl 3 rfl) ?_
  refine lv_icmp_ge (tgt := 25) hx hb dX0_land_4 (by decide) (fun c_4 => ?_) (fun c_4 => ?_)
  · have hf := if_t c_4 hf
    exact fin' _ hf 25 ls H locs dX0_land_25 hP hD hS
  · have hf := if_f c_4 hf
    refine lv_aload_n hx hb dX0_land_7 rfl (lv_at hl 0 rfl) ?_
    refine gf_X0_15 X hP 0 rfl rfl dX0_land_8 ?_
    refine lv_iload hx hb dX0_land_11 (lv_at hl 4 rfl) ?_
    refine lv_iconst (v := (1 : Int32)) hx hb dX0_land_13 (by decide) ?_
    refine lv_iload_n hx hb dX0_land_14 rfl (lv_at hl 2 rfl) ?_
    refine lv_iconst (v := (1 : Int32)) hx hb dX0_land_15 (by decide) ?_
    refine lv_isub hx hb dX0_land_16 ?_
    refine lv_ishl hx hb dX0_land_17 ?_
    refine lv_ior hx hb dX0_land_18 ?_
    refine lv_dup2_11 hx hb dX0_land_19 rfl rfl ?_
    obtain ⟨hi20, hf⟩ := ck_some hf
    refine r_lald X hP 1 rfl hi20 dX0_land_20 ?_
    refine lv_lload hx hb dX0_land_21 (lv_at hl 5 rfl) ?_
    refine lv_ladd hx hb dX0_land_23 ?_
    refine r_last X hP hD hS 1 rfl hi20 (ws' := (wd_X0_land E a_t a_t_next w_t_now x_t_won x_t_together (vp_updL x_t_next (ix (p4 ||| ((1 : Int32) <<< ((p2 - (1 : Int32)) &&& 31)))) ((x_t_next (ix (p4 ||| ((1 : Int32) <<< ((p2 - (1 : Int32)) &&& 31))))) + p5)))) rfl dX0_land_24 (fun H locs hP hD hS => ?_)
    exact fin' _ hf 25 ls H locs dX0_land_25 hP hD hS
abbrev wd_X0_landByWeights (E : EN) (a_t : Nat) (a_p3 : Nat) (a_t_next : Nat) (w_t_now : Value) (x_t_won : Int64) (x_t_together : Int64) (x_p3 : Nat → Int32) (x_t_next : Nat → Int64) : va_W := [(a_t, e_O 0 [w_t_now, .ref a_t_next, .long x_t_won, .long x_t_together]), (a_p3, e_I E 11 x_p3), (a_t_next, e_J E 1024 x_t_next)]
def f_X0_landByWeights_3 (p1 : Int32) (p2 : Int32) (p4 : Int32) (p5 : Int64) (x_p3 : Nat → Int32)  : Nat → Int32 → (Nat → Int64) → Option ((Nat → Int64))
  | 0, _, _ => none
  | n_ + 1, v7, m_t_next =>
    if (10 : Int32) < v7 then
      some m_t_next
    else
      ck (inB v7 11) (
      Option.bind (f_X0_land p1 v7 p2 p4 (p5 * (x_p3 (ix v7)).toInt64) m_t_next) (fun r25 =>
      f_X0_landByWeights_3 p1 p2 p4 p5 x_p3 n_ (v7 + (1 : Int32)) r25))
def f_X0_landByWeights (p1 : Int32) (p2 : Int32) (p4 : Int32) (p5 : Int64) (x_p3 : Nat → Int32) (x_t_next : Nat → Int64) : Option ((Nat → Int64)) :=
  f_X0_landByWeights_3 p1 p2 p4 p5 x_p3 FU (1 : Int32) x_t_next
set_option maxHeartbeats 4000000 in
set_option maxRecDepth 100000 in
theorem c_X0_landByWeights (l : Launch) (E : EN) (a_t a_p3 a_t_next : Nat) (w_t_now : Value) (x_t_won : Int64) (x_t_together : Int64) (x_p3 : Nat → Int32) (x_t_next : Nat → Int64) (p1 : Int32) (p2 : Int32) (p4 : Int32) (p5 : Int64) (res : (Nat → Int64)) (hf : f_X0_landByWeights p1 p2 p4 p5 x_p3 x_t_next = some res) : CtV l yX0_landByWeights cX0_landByWeights 8 1 26 E [.ref a_t, .int p1, .int p2, .ref a_p3, .int p4, .long p5] (wd_X0_landByWeights E a_t a_p3 a_t_next w_t_now x_t_won x_t_together x_p3 x_t_next) (wd_X0_landByWeights E a_t a_p3 a_t_next w_t_now x_t_won x_t_together x_p3 res) := by
  refine CtV.of RX0 (by decide) rfl (Nat.le_of_ble_eq_true rfl) ?_
  intro p e s m below meth c A Q ls X hA hP hD hl fin
  have hx := X.1
  have hb := X.2.1
  have hl : lv_has ls 8 [(0, .ref a_t), (1, .int p1), (2, .int p2), (3, .ref a_p3), (4, .int p4), (5, .long p5)] := hl
  have fin' : ∀ (fr0 : (Nat → Int64)), some fr0 = some res → ∀ (pc : Nat) (ls : Array Slot) (H : Heap) (locs : List Loc), decode cX0_landByWeights pc = .ok (.return_, 1) → va_P E.1 vwCl (wd_X0_landByWeights E a_t a_p3 a_t_next w_t_now x_t_won x_t_together x_p3 fr0) H → va_D A (wd_X0_landByWeights E a_t a_p3 a_t_next w_t_now x_t_won x_t_together x_p3 fr0) → va_S A s.heap H locs → W p l e (rmm 1 26) s m ([.ref a_t, .int p1, .int p2, .ref a_p3, .int p4, .long p5] : List Value).toArray below meth c H locs 0 0 Q (F0 m pc ls []) := by
    intro fr0 he
    cases he
    exact fin
  have L3 : ∀ (n3 : Nat) (v7 : Int32) (m_t_next : Nat → Int64), f_X0_landByWeights_3 p1 p2 p4 p5 x_p3 n3 v7 m_t_next = some res → ∀ (H : Heap) (locs : List Loc) (ls : Array Slot), va_P E.1 vwCl (wd_X0_landByWeights E a_t a_p3 a_t_next w_t_now x_t_won x_t_together x_p3 m_t_next) H → va_D A (wd_X0_landByWeights E a_t a_p3 a_t_next w_t_now x_t_won x_t_together x_p3 m_t_next) → va_S A s.heap H locs → lv_has ls 8 [(0, .ref a_t), (1, .int p1), (2, .int p2), (3, .ref a_p3), (4, .int p4), (5, .long p5), (7, .int v7)] → W p l e (rmm 1 26) s m ([.ref a_t, .int p1, .int p2, .ref a_p3, .int p4, .long p5] : List Value).toArray below meth c H locs 0 0 Q (F0 m 3 ls []) := by
    intro n3
    induction n3 with
    | zero => intro v7 m_t_next hf; rw [f_X0_landByWeights_3] at hf; cases hf
    | succ n3 ih3 =>
      intro v7 m_t_next hf H locs ls hP hD hS hl
      rw [f_X0_landByWeights_3] at hf
      refine lv_iload hx hb dX0_landByWeights_3 (lv_at hl 6 rfl) ?_
      refine lv_bipush (v := (10 : Int32)) hx hb dX0_landByWeights_5 (by decide) ?_
      refine lv_icmp_gt (tgt := 34) hx hb dX0_landByWeights_7 (by decide) (fun c_7 => ?_) (fun c_7 => ?_)
      · have hf := if_t c_7 hf
        exact fin' _ hf 34 ls H locs dX0_landByWeights_34 hP hD hS
      · have hf := if_f c_7 hf
        refine lv_aload_n hx hb dX0_landByWeights_10 rfl (lv_at hl 0 rfl) ?_
        refine lv_iload_n hx hb dX0_landByWeights_11 rfl (lv_at hl 1 rfl) ?_
        refine lv_iload hx hb dX0_landByWeights_12 (lv_at hl 6 rfl) ?_
        refine lv_iload_n hx hb dX0_landByWeights_14 rfl (lv_at hl 2 rfl) ?_
        refine lv_iload hx hb dX0_landByWeights_15 (lv_at hl 4 rfl) ?_
        refine lv_lload hx hb dX0_landByWeights_17 (lv_at hl 5 rfl) ?_
        refine lv_aload_n hx hb dX0_landByWeights_19 rfl (lv_at hl 3 rfl) ?_
        refine lv_iload hx hb dX0_landByWeights_20 (lv_at hl 6 rfl) ?_
        obtain ⟨hi22, hf⟩ := ck_some hf
        refine r_iald X hP 1 rfl hi22 dX0_landByWeights_22 ?_
        refine lv_i2l (v := (x_p3 (ix v7)).toInt64) hx hb dX0_landByWeights_23 rfl ?_
        refine lv_lmul hx hb dX0_landByWeights_24 ?_
        obtain ⟨r25, hc25, hf⟩ := bd_some hf
        refine cV_V X hA hP hD hS hl.1 (c_X0_land l E a_t a_t_next w_t_now x_t_won x_t_together m_t_next p1 v7 p2 p4 (p5 * (x_p3 (ix v7)).toInt64) r25 hc25) 5 k_495 mw_X0_land hd_X0_land ⟨Nat.le_of_ble_eq_true rfl, Nat.le_of_ble_eq_true rfl⟩ [0, 2] [1] [1, 0, 2] rfl rfl (wr := [1].filterMap (fun i => (wd_X0_landByWeights E a_t a_p3 a_t_next w_t_now x_t_won x_t_together x_p3 m_t_next)[i]?)) rfl rfl rfl 0 0 rfl rfl rfl rfl rfl (Nat.le_of_ble_eq_true rfl) rfl (ws' := (wd_X0_landByWeights E a_t a_p3 a_t_next w_t_now x_t_won x_t_together x_p3 r25)) rfl ⟨Nat.le_of_ble_eq_true rfl, Nat.le_of_ble_eq_true rfl⟩ dX0_landByWeights_25 (fun H locs hP hD hS => ?_)
        refine lv_iinc (v := (v7 + (1 : Int32))) (lv' := [(7, .int (v7 + (1 : Int32))), (0, .ref a_t), (1, .int p1), (2, .int p2), (3, .ref a_p3), (4, .int p4), (5, .long p5)]) hx hb dX0_landByWeights_28 hl (k := 6) rfl rfl (by decide) rfl (fun ls hl => ?_)
        refine lv_goto (tgt := 3) hx hb dX0_landByWeights_31 (by decide) ?_
        exact ih3 (v7 + (1 : Int32)) r25 hf H locs ls hP hD hS (lv_sub hl [1, 2, 3, 4, 5, 6, 0] rfl)
  have hS : va_S A s.heap s.heap [] := va_S.rf
  obtain ⟨H, hH9⟩ : ∃ z, z = s.heap := ⟨_, rfl⟩
  obtain ⟨locs, hL9⟩ : ∃ z : List Loc, z = [] := ⟨_, rfl⟩
  rw [← hL9]
  rw [← hL9] at hS
  have hP : va_P E.1 vwCl (wd_X0_landByWeights E a_t a_p3 a_t_next w_t_now x_t_won x_t_together x_p3 x_t_next) H := by rw [hH9]; exact hP
  have hS : va_S A s.heap H locs := by rw [hH9]; exact hS
  suffices hgoal : W p l e (rmm 1 26) s m ([.ref a_t, .int p1, .int p2, .ref a_p3, .int p4, .long p5] : List Value).toArray below meth c H locs 0 0 Q (F0 m 0 ls []) by rw [hH9] at hgoal; exact hgoal
  rw [f_X0_landByWeights] at hf
  refine lv_iconst (v := (1 : Int32)) hx hb dX0_landByWeights_0 (by decide) ?_
  refine lv_istore (lv' := [(7, .int (1 : Int32)), (0, .ref a_t), (1, .int p1), (2, .int p2), (3, .ref a_p3), (4, .int p4), (5, .long p5)]) hx hb dX0_landByWeights_1 hl (by decide) rfl (fun ls hl => ?_)
  exact L3 FU (1 : Int32) x_t_next hf H locs ls hP hD hS (lv_sub hl [1, 2, 3, 4, 5, 6, 0] rfl)
abbrev wd_X0_goOnFrom (E : EN) (a_t : Nat) (a_p2 : Nat) (a_p3 : Nat) (a_t_now : Nat) (a_p2_counts : Nat) (a_t_next : Nat) (x_t_won : Int64) (x_t_together : Int64) (w_p2_ends : Value) (w_p2_comers : Value) (w_p2_leaders : Value) (w_p2_chains : Value) (x_p2_places : Int32) (x_p2_beginnings : Int32) (x_p3 : Nat → Int32) (x_t_now : Nat → Int64) (x_p2_counts : Nat → Int32) (x_t_next : Nat → Int64) : va_W := [(a_t, e_O 0 [.ref a_t_now, .ref a_t_next, .long x_t_won, .long x_t_together]), (a_p2, e_O 2 [.ref a_p2_counts, w_p2_ends, w_p2_comers, w_p2_leaders, w_p2_chains, .int x_p2_places, .int x_p2_beginnings]), (a_p3, e_I E 11 x_p3), (a_t_now, e_J E 1024 x_t_now), (a_p2_counts, e_I E 40 x_p2_counts), (a_t_next, e_J E 1024 x_t_next)]
def f_X0_goOnFrom_109 (p1 : Int32) (p4 : Int32) (x_p2_places : Int32) (x_p3 : Nat → Int32) (x_p2_counts : Nat → Int32) (K_44 : Int32 → Int32 → Int32 → Int64 → (Nat → Int64) → Option (Int64 × (Nat → Int64))) (v7 : Int32) (v8 : Int32) (v9 : Int32) (v10 : Int64) (v12 : Int32) (m_t_won : Int64) (m_t_next : Nat → Int64) : Option (Int64 × (Nat → Int64)) :=
  if (v9 &&& (1 : Int32)) = 0 then
    ck (inB v12 1024) (
    K_44 v7 v8 (v9 + (1 : Int32)) m_t_won (vp_updL m_t_next (ix v12) ((m_t_next (ix v12)) + (v10 * p4.toInt64))))
  else
    ck (inB p1 40) (
    if (x_p2_counts (ix p1)) ≤ 0 then
      Option.bind (f_X0_landByWeights p1 x_p2_places v12 v10 x_p3 m_t_next) (fun r177 =>
      K_44 v7 v8 (v9 + (1 : Int32)) m_t_won r177)
    else
      Option.bind (f_X0_land p1 (x_p2_counts (ix p1)) x_p2_places v12 v10 m_t_next) (fun r160 =>
      K_44 v7 v8 (v9 + (1 : Int32)) m_t_won r160))
def f_X0_goOnFrom_44 (p1 : Int32) (p4 : Int32) (x_p2_places : Int32) (x_p3 : Nat → Int32) (x_t_now : Nat → Int64) (x_p2_counts : Nat → Int32)  : Nat → Int32 → Int32 → Int32 → Int64 → (Nat → Int64) → Option (Int64 × (Nat → Int64))
  | 0, _, _, _, _, _ => none
  | n_ + 1, v7, v8, v9, m_t_won, m_t_next =>
    if (1024 : Int32) ≤ v9 then
      some (m_t_won, m_t_next)
    else
      ck (inB v9 1024) (
      if (lg_cmp (x_t_now (ix v9)) (0 : Int64)) = 0 then
        f_X0_goOnFrom_44 p1 p4 x_p2_places x_p3 x_t_now x_p2_counts n_ v7 v8 (v9 + (1 : Int32)) m_t_won m_t_next
      else
        if v9 = (1 : Int32) then
          if v7 = 0 then
            f_X0_goOnFrom_109 p1 p4 x_p2_places x_p3 x_p2_counts (f_X0_goOnFrom_44 p1 p4 x_p2_places x_p3 x_t_now x_p2_counts n_) v7 v8 v9 (x_t_now (ix v9)) ((v9 >>> ((1 : Int32) &&& 31)) ||| v8) m_t_won m_t_next
          else
            f_X0_goOnFrom_44 p1 p4 x_p2_places x_p3 x_t_now x_p2_counts n_ v7 v8 (v9 + (1 : Int32)) (m_t_won + ((x_t_now (ix v9)) * p4.toInt64)) m_t_next
        else
          f_X0_goOnFrom_109 p1 p4 x_p2_places x_p3 x_p2_counts (f_X0_goOnFrom_44 p1 p4 x_p2_places x_p3 x_t_now x_p2_counts n_) v7 v8 v9 (x_t_now (ix v9)) ((v9 >>> ((1 : Int32) &&& 31)) ||| v8) m_t_won m_t_next)
def f_X0_goOnFrom_16 (p1 : Int32) (p4 : Int32) (p5 : Int64) (x_p2_places : Int32) (x_p3 : Nat → Int32) (x_t_now : Nat → Int64) (x_p2_counts : Nat → Int32)  (s0 : Int32) (m_t_won : Int64) (m_t_next : Nat → Int64) : Option (Int64 × (Nat → Int64)) :=
  if (lg_cmp ((jlushr p5 (p1 + (10 : Int32))) &&& (1 : Int64)) (0 : Int64)) = 0 then
    f_X0_goOnFrom_44 p1 p4 x_p2_places x_p3 x_t_now x_p2_counts FU s0 (0 : Int32) (0 : Int32) m_t_won m_t_next
  else
    f_X0_goOnFrom_44 p1 p4 x_p2_places x_p3 x_t_now x_p2_counts FU s0 (512 : Int32) (0 : Int32) m_t_won m_t_next
def f_X0_goOnFrom (p1 : Int32) (p4 : Int32) (p5 : Int64) (x_t_won : Int64) (x_p2_places : Int32) (x_p3 : Nat → Int32) (x_t_now : Nat → Int64) (x_p2_counts : Nat → Int32) (x_t_next : Nat → Int64) : Option (Int64 × (Nat → Int64)) :=
  if (lg_cmp (jlushr p5 (p1 + (1 : Int32))) (0 : Int64)) = 0 then
    f_X0_goOnFrom_16 p1 p4 p5 x_p2_places x_p3 x_t_now x_p2_counts (1 : Int32) x_t_won x_t_next
  else
    f_X0_goOnFrom_16 p1 p4 p5 x_p2_places x_p3 x_t_now x_p2_counts (0 : Int32) x_t_won x_t_next
set_option maxHeartbeats 4000000 in
set_option maxRecDepth 100000 in
theorem c_X0_goOnFrom (l : Launch) (E : EN) (a_t a_p2 a_p3 a_t_now a_p2_counts a_t_next : Nat) (x_t_won : Int64) (x_t_together : Int64) (w_p2_ends : Value) (w_p2_comers : Value) (w_p2_leaders : Value) (w_p2_chains : Value) (x_p2_places : Int32) (x_p2_beginnings : Int32) (x_p3 : Nat → Int32) (x_t_now : Nat → Int64) (x_p2_counts : Nat → Int32) (x_t_next : Nat → Int64) (p1 : Int32) (p4 : Int32) (p5 : Int64) (res : Int64 × (Nat → Int64)) (hf : f_X0_goOnFrom p1 p4 p5 x_t_won x_p2_places x_p3 x_t_now x_p2_counts x_t_next = some res) : CtV l yX0_goOnFrom cX0_goOnFrom 13 2 53 E [.ref a_t, .int p1, .ref a_p2, .ref a_p3, .int p4, .long p5] (wd_X0_goOnFrom E a_t a_p2 a_p3 a_t_now a_p2_counts a_t_next x_t_won x_t_together w_p2_ends w_p2_comers w_p2_leaders w_p2_chains x_p2_places x_p2_beginnings x_p3 x_t_now x_p2_counts x_t_next) (wd_X0_goOnFrom E a_t a_p2 a_p3 a_t_now a_p2_counts a_t_next res.1 x_t_together w_p2_ends w_p2_comers w_p2_leaders w_p2_chains x_p2_places x_p2_beginnings x_p3 x_t_now x_p2_counts res.2) := by
  refine CtV.of RX0 (by decide) rfl (Nat.le_of_ble_eq_true rfl) ?_
  intro p e s m below meth c A Q ls X hA hP hD hl fin
  have hx := X.1
  have hb := X.2.1
  have hl : lv_has ls 13 [(0, .ref a_t), (1, .int p1), (2, .ref a_p2), (3, .ref a_p3), (4, .int p4), (5, .long p5)] := hl
  have fin' : ∀ (fr0 : Int64) (fr1 : (Nat → Int64)), some (fr0, fr1) = some res → ∀ (pc : Nat) (ls : Array Slot) (H : Heap) (locs : List Loc), decode cX0_goOnFrom pc = .ok (.return_, 1) → va_P E.1 vwCl (wd_X0_goOnFrom E a_t a_p2 a_p3 a_t_now a_p2_counts a_t_next fr0 x_t_together w_p2_ends w_p2_comers w_p2_leaders w_p2_chains x_p2_places x_p2_beginnings x_p3 x_t_now x_p2_counts fr1) H → va_D A (wd_X0_goOnFrom E a_t a_p2 a_p3 a_t_now a_p2_counts a_t_next fr0 x_t_together w_p2_ends w_p2_comers w_p2_leaders w_p2_chains x_p2_places x_p2_beginnings x_p3 x_t_now x_p2_counts fr1) → va_S A s.heap H locs → W p l e (rmm 2 53) s m ([.ref a_t, .int p1, .ref a_p2, .ref a_p3, .int p4, .long p5] : List Value).toArray below meth c H locs 0 0 Q (F0 m pc ls []) := by
    intro fr0 fr1 he
    cases he
    exact fin
  have L44 : ∀ (n44 : Nat) (v7 : Int32) (v8 : Int32) (v9 : Int32) (m_t_won : Int64) (m_t_next : Nat → Int64), f_X0_goOnFrom_44 p1 p4 x_p2_places x_p3 x_t_now x_p2_counts n44 v7 v8 v9 m_t_won m_t_next = some res → ∀ (H : Heap) (locs : List Loc) (ls : Array Slot), va_P E.1 vwCl (wd_X0_goOnFrom E a_t a_p2 a_p3 a_t_now a_p2_counts a_t_next m_t_won x_t_together w_p2_ends w_p2_comers w_p2_leaders w_p2_chains x_p2_places x_p2_beginnings x_p3 x_t_now x_p2_counts m_t_next) H → va_D A (wd_X0_goOnFrom E a_t a_p2 a_p3 a_t_now a_p2_counts a_t_next m_t_won x_t_together w_p2_ends w_p2_comers w_p2_leaders w_p2_chains x_p2_places x_p2_beginnings x_p3 x_t_now x_p2_counts m_t_next) → va_S A s.heap H locs → lv_has ls 13 [(0, .ref a_t), (1, .int p1), (2, .ref a_p2), (3, .ref a_p3), (4, .int p4), (7, .int v7), (8, .int v8), (9, .int v9)] → W p l e (rmm 2 53) s m ([.ref a_t, .int p1, .ref a_p2, .ref a_p3, .int p4, .long p5] : List Value).toArray below meth c H locs 0 0 Q (F0 m 44 ls []) := by
    intro n44
    induction n44 with
    | zero => intro v7 v8 v9 m_t_won m_t_next hf; rw [f_X0_goOnFrom_44] at hf; cases hf
    | succ n44 ih44 =>
      have L109 : ∀ (v7 : Int32) (v8 : Int32) (v9 : Int32) (v10 : Int64) (v12 : Int32) (m_t_won : Int64) (m_t_next : Nat → Int64), f_X0_goOnFrom_109 p1 p4 x_p2_places x_p3 x_p2_counts (f_X0_goOnFrom_44 p1 p4 x_p2_places x_p3 x_t_now x_p2_counts n44) v7 v8 v9 v10 v12 m_t_won m_t_next = some res → ∀ (H : Heap) (locs : List Loc) (ls : Array Slot), va_P E.1 vwCl (wd_X0_goOnFrom E a_t a_p2 a_p3 a_t_now a_p2_counts a_t_next m_t_won x_t_together w_p2_ends w_p2_comers w_p2_leaders w_p2_chains x_p2_places x_p2_beginnings x_p3 x_t_now x_p2_counts m_t_next) H → va_D A (wd_X0_goOnFrom E a_t a_p2 a_p3 a_t_now a_p2_counts a_t_next m_t_won x_t_together w_p2_ends w_p2_comers w_p2_leaders w_p2_chains x_p2_places x_p2_beginnings x_p3 x_t_now x_p2_counts m_t_next) → va_S A s.heap H locs → lv_has ls 13 [(0, .ref a_t), (1, .int p1), (2, .ref a_p2), (3, .ref a_p3), (4, .int p4), (7, .int v7), (8, .int v8), (9, .int v9), (10, .long v10), (12, .int v12)] → W p l e (rmm 2 53) s m ([.ref a_t, .int p1, .ref a_p2, .ref a_p3, .int p4, .long p5] : List Value).toArray below meth c H locs 0 0 Q (F0 m 109 ls []) := by
        intro v7 v8 v9 v10 v12 m_t_won m_t_next hf H locs ls hP hD hS hl
        rw [f_X0_goOnFrom_109] at hf
        refine lv_iload hx hb dX0_goOnFrom_109 (lv_at hl 7 rfl) ?_
        refine lv_iconst (v := (1 : Int32)) hx hb dX0_goOnFrom_111 (by decide) ?_
        refine lv_iand hx hb dX0_goOnFrom_112 ?_
        refine lv_if_ne (tgt := 135) hx hb dX0_goOnFrom_113 (by decide) (fun c_113 => ?_) (fun c_113 => ?_)
        · have hf := if_f c_113 hf
          refine lv_aload_n hx hb dX0_goOnFrom_135 rfl (lv_at hl 2 rfl) ?_
          refine gf_X0_39 X hP 1 rfl rfl dX0_goOnFrom_136 ?_
          refine lv_iload_n hx hb dX0_goOnFrom_139 rfl (lv_at hl 1 rfl) ?_
          obtain ⟨hi140, hf⟩ := ck_some hf
          refine r_iald X hP 4 rfl hi140 dX0_goOnFrom_140 ?_
          refine lv_if_le (tgt := 166) hx hb dX0_goOnFrom_141 (by decide) (fun c_141 => ?_) (fun c_141 => ?_)
          · have hf := if_t c_141 hf
            refine lv_aload_n hx hb dX0_goOnFrom_166 rfl (lv_at hl 0 rfl) ?_
            refine lv_iload_n hx hb dX0_goOnFrom_167 rfl (lv_at hl 1 rfl) ?_
            refine lv_aload_n hx hb dX0_goOnFrom_168 rfl (lv_at hl 2 rfl) ?_
            refine gf_X0_33 X hP 1 rfl rfl dX0_goOnFrom_169 ?_
            refine lv_aload_n hx hb dX0_goOnFrom_172 rfl (lv_at hl 3 rfl) ?_
            refine lv_iload hx hb dX0_goOnFrom_173 (lv_at hl 9 rfl) ?_
            refine lv_lload hx hb dX0_goOnFrom_175 (lv_at hl 8 rfl) ?_
            obtain ⟨r177, hc177, hf⟩ := bd_some hf
            refine cV_V X hA hP hD hS hl.1 (c_X0_landByWeights l E a_t a_p3 a_t_next (.ref a_t_now) m_t_won x_t_together x_p3 m_t_next p1 x_p2_places v12 v10 r177 hc177) 5 k_499 mw_X0_landByWeights hd_X0_landByWeights ⟨Nat.le_of_ble_eq_true rfl, Nat.le_of_ble_eq_true rfl⟩ [0, 2, 5] [1, 3, 4] [3, 0, 4, 1, 2, 5] rfl rfl (wr := [1, 3, 4].filterMap (fun i => (wd_X0_goOnFrom E a_t a_p2 a_p3 a_t_now a_p2_counts a_t_next m_t_won x_t_together w_p2_ends w_p2_comers w_p2_leaders w_p2_chains x_p2_places x_p2_beginnings x_p3 x_t_now x_p2_counts m_t_next)[i]?)) rfl rfl rfl 0 0 rfl rfl rfl rfl rfl (Nat.le_of_ble_eq_true rfl) rfl (ws' := (wd_X0_goOnFrom E a_t a_p2 a_p3 a_t_now a_p2_counts a_t_next m_t_won x_t_together w_p2_ends w_p2_comers w_p2_leaders w_p2_chains x_p2_places x_p2_beginnings x_p3 x_t_now x_p2_counts r177)) rfl ⟨Nat.le_of_ble_eq_true rfl, Nat.le_of_ble_eq_true rfl⟩ dX0_goOnFrom_177 (fun H locs hP hD hS => ?_)
            refine lv_iinc (v := (v9 + (1 : Int32))) (lv' := [(9, .int (v9 + (1 : Int32))), (0, .ref a_t), (1, .int p1), (2, .ref a_p2), (3, .ref a_p3), (4, .int p4), (7, .int v7), (8, .int v8), (10, .long v10), (12, .int v12)]) hx hb dX0_goOnFrom_180 hl (k := 7) rfl rfl (by decide) rfl (fun ls hl => ?_)
            refine lv_goto (tgt := 44) hx hb dX0_goOnFrom_183 (by decide) ?_
            exact ih44 v7 v8 (v9 + (1 : Int32)) m_t_won r177 hf H locs ls hP hD hS (lv_sub hl [1, 2, 3, 4, 5, 6, 7, 0] rfl)
          · have hf := if_f c_141 hf
            refine lv_aload_n hx hb dX0_goOnFrom_144 rfl (lv_at hl 0 rfl) ?_
            refine lv_iload_n hx hb dX0_goOnFrom_145 rfl (lv_at hl 1 rfl) ?_
            refine lv_aload_n hx hb dX0_goOnFrom_146 rfl (lv_at hl 2 rfl) ?_
            refine gf_X0_39 X hP 1 rfl rfl dX0_goOnFrom_147 ?_
            refine lv_iload_n hx hb dX0_goOnFrom_150 rfl (lv_at hl 1 rfl) ?_
            refine r_iald X hP 4 rfl hi140 dX0_goOnFrom_151 ?_
            refine lv_aload_n hx hb dX0_goOnFrom_152 rfl (lv_at hl 2 rfl) ?_
            refine gf_X0_33 X hP 1 rfl rfl dX0_goOnFrom_153 ?_
            refine lv_iload hx hb dX0_goOnFrom_156 (lv_at hl 9 rfl) ?_
            refine lv_lload hx hb dX0_goOnFrom_158 (lv_at hl 8 rfl) ?_
            obtain ⟨r160, hc160, hf⟩ := bd_some hf
            refine cV_V X hA hP hD hS hl.1 (c_X0_land l E a_t a_t_next (.ref a_t_now) m_t_won x_t_together m_t_next p1 (x_p2_counts (ix p1)) x_p2_places v12 v10 r160 hc160) 5 k_495 mw_X0_land hd_X0_land ⟨Nat.le_of_ble_eq_true rfl, Nat.le_of_ble_eq_true rfl⟩ [0, 5] [1, 2, 3, 4] [4, 0, 1, 2, 3, 5] rfl rfl (wr := [1, 2, 3, 4].filterMap (fun i => (wd_X0_goOnFrom E a_t a_p2 a_p3 a_t_now a_p2_counts a_t_next m_t_won x_t_together w_p2_ends w_p2_comers w_p2_leaders w_p2_chains x_p2_places x_p2_beginnings x_p3 x_t_now x_p2_counts m_t_next)[i]?)) rfl rfl rfl 0 0 rfl rfl rfl rfl rfl (Nat.le_of_ble_eq_true rfl) rfl (ws' := (wd_X0_goOnFrom E a_t a_p2 a_p3 a_t_now a_p2_counts a_t_next m_t_won x_t_together w_p2_ends w_p2_comers w_p2_leaders w_p2_chains x_p2_places x_p2_beginnings x_p3 x_t_now x_p2_counts r160)) rfl ⟨Nat.le_of_ble_eq_true rfl, Nat.le_of_ble_eq_true rfl⟩ dX0_goOnFrom_160 (fun H locs hP hD hS => ?_)
            refine lv_goto (tgt := 180) hx hb dX0_goOnFrom_163 (by decide) ?_
            refine lv_iinc (v := (v9 + (1 : Int32))) (lv' := [(9, .int (v9 + (1 : Int32))), (0, .ref a_t), (1, .int p1), (2, .ref a_p2), (3, .ref a_p3), (4, .int p4), (7, .int v7), (8, .int v8), (10, .long v10), (12, .int v12)]) hx hb dX0_goOnFrom_180 hl (k := 7) rfl rfl (by decide) rfl (fun ls hl => ?_)
            refine lv_goto (tgt := 44) hx hb dX0_goOnFrom_183 (by decide) ?_
            exact ih44 v7 v8 (v9 + (1 : Int32)) m_t_won r160 hf H locs ls hP hD hS (lv_sub hl [1, 2, 3, 4, 5, 6, 7, 0] rfl)
        · have hf := if_t c_113 hf
          refine lv_aload_n hx hb dX0_goOnFrom_116 rfl (lv_at hl 0 rfl) ?_
          refine gf_X0_15 X hP 0 rfl rfl dX0_goOnFrom_117 ?_
          refine lv_iload hx hb dX0_goOnFrom_120 (lv_at hl 9 rfl) ?_
          refine lv_dup2_11 hx hb dX0_goOnFrom_122 rfl rfl ?_
          obtain ⟨hi123, hf⟩ := ck_some hf
          refine r_lald X hP 5 rfl hi123 dX0_goOnFrom_123 ?_
          refine lv_lload hx hb dX0_goOnFrom_124 (lv_at hl 8 rfl) ?_
          refine lv_iload hx hb dX0_goOnFrom_126 (lv_at hl 4 rfl) ?_
          refine lv_i2l (v := p4.toInt64) hx hb dX0_goOnFrom_128 rfl ?_
          refine lv_lmul hx hb dX0_goOnFrom_129 ?_
          refine lv_ladd hx hb dX0_goOnFrom_130 ?_
          refine r_last X hP hD hS 5 rfl hi123 (ws' := (wd_X0_goOnFrom E a_t a_p2 a_p3 a_t_now a_p2_counts a_t_next m_t_won x_t_together w_p2_ends w_p2_comers w_p2_leaders w_p2_chains x_p2_places x_p2_beginnings x_p3 x_t_now x_p2_counts (vp_updL m_t_next (ix v12) ((m_t_next (ix v12)) + (v10 * p4.toInt64))))) rfl dX0_goOnFrom_131 (fun H locs hP hD hS => ?_)
          refine lv_goto (tgt := 180) hx hb dX0_goOnFrom_132 (by decide) ?_
          refine lv_iinc (v := (v9 + (1 : Int32))) (lv' := [(9, .int (v9 + (1 : Int32))), (0, .ref a_t), (1, .int p1), (2, .ref a_p2), (3, .ref a_p3), (4, .int p4), (7, .int v7), (8, .int v8), (10, .long v10), (12, .int v12)]) hx hb dX0_goOnFrom_180 hl (k := 7) rfl rfl (by decide) rfl (fun ls hl => ?_)
          refine lv_goto (tgt := 44) hx hb dX0_goOnFrom_183 (by decide) ?_
          exact ih44 v7 v8 (v9 + (1 : Int32)) m_t_won (vp_updL m_t_next (ix v12) ((m_t_next (ix v12)) + (v10 * p4.toInt64))) hf H locs ls hP hD hS (lv_sub hl [1, 2, 3, 4, 5, 6, 7, 0] rfl)
      intro v7 v8 v9 m_t_won m_t_next hf H locs ls hP hD hS hl
      rw [f_X0_goOnFrom_44] at hf
      refine lv_iload hx hb dX0_goOnFrom_44 (lv_at hl 7 rfl) ?_
      refine lv_sipush (v := (1024 : Int32)) hx hb dX0_goOnFrom_46 (by decide) ?_
      refine lv_icmp_ge (tgt := 186) hx hb dX0_goOnFrom_49 (by decide) (fun c_49 => ?_) (fun c_49 => ?_)
      · have hf := if_t c_49 hf
        exact fin' _ _ hf 186 ls H locs dX0_goOnFrom_186 hP hD hS
      · have hf := if_f c_49 hf
        refine lv_aload_n hx hb dX0_goOnFrom_52 rfl (lv_at hl 0 rfl) ?_
        refine gf_X0_11 X hP 0 rfl rfl dX0_goOnFrom_53 ?_
        refine lv_iload hx hb dX0_goOnFrom_56 (lv_at hl 7 rfl) ?_
        obtain ⟨hi58, hf⟩ := ck_some hf
        refine r_lald X hP 3 rfl hi58 dX0_goOnFrom_58 ?_
        refine lv_lstore (lv' := [(10, .long (x_t_now (ix v9))), (0, .ref a_t), (1, .int p1), (2, .ref a_p2), (3, .ref a_p3), (4, .int p4), (7, .int v7), (8, .int v8), (9, .int v9)]) hx hb dX0_goOnFrom_59 hl (by decide) rfl (fun ls hl => ?_)
        refine lv_lload hx hb dX0_goOnFrom_61 (lv_at hl 0 rfl) ?_
        refine lv_lconst (v := (0 : Int64)) hx hb dX0_goOnFrom_63 (by decide) ?_
        refine W.lcmp hx hb dX0_goOnFrom_64 ?_
        refine lv_if_ne (tgt := 71) hx hb dX0_goOnFrom_65 (by decide) (fun c_65 => ?_) (fun c_65 => ?_)
        · have hf := if_f c_65 hf
          refine lv_iload hx hb dX0_goOnFrom_71 (lv_at hl 8 rfl) ?_
          refine lv_iconst (v := (1 : Int32)) hx hb dX0_goOnFrom_73 (by decide) ?_
          refine lv_ishr hx hb dX0_goOnFrom_74 ?_
          refine lv_iload hx hb dX0_goOnFrom_75 (lv_at hl 7 rfl) ?_
          refine lv_ior hx hb dX0_goOnFrom_77 ?_
          refine lv_istore (lv' := [(12, .int ((v9 >>> ((1 : Int32) &&& 31)) ||| v8)), (10, .long (x_t_now (ix v9))), (0, .ref a_t), (1, .int p1), (2, .ref a_p2), (3, .ref a_p3), (4, .int p4), (7, .int v7), (8, .int v8), (9, .int v9)]) hx hb dX0_goOnFrom_78 hl (by decide) rfl (fun ls hl => ?_)
          refine lv_iload hx hb dX0_goOnFrom_80 (lv_at hl 9 rfl) ?_
          refine lv_iconst (v := (1 : Int32)) hx hb dX0_goOnFrom_82 (by decide) ?_
          refine lv_icmp_ne (tgt := 109) hx hb dX0_goOnFrom_83 (by decide) (fun c_83 => ?_) (fun c_83 => ?_)
          · have hf := if_f c_83 hf
            exact L109 v7 v8 v9 (x_t_now (ix v9)) ((v9 >>> ((1 : Int32) &&& 31)) ||| v8) m_t_won m_t_next hf H locs ls hP hD hS (lv_sub hl [2, 3, 4, 5, 6, 7, 8, 9, 1, 0] rfl)
          · have hf := if_t c_83 hf
            refine lv_iload hx hb dX0_goOnFrom_86 (lv_at hl 7 rfl) ?_
            refine lv_if_eq (tgt := 109) hx hb dX0_goOnFrom_88 (by decide) (fun c_88 => ?_) (fun c_88 => ?_)
            · have hf := if_t c_88 hf
              exact L109 v7 v8 v9 (x_t_now (ix v9)) ((v9 >>> ((1 : Int32) &&& 31)) ||| v8) m_t_won m_t_next hf H locs ls hP hD hS (lv_sub hl [2, 3, 4, 5, 6, 7, 8, 9, 1, 0] rfl)
            · have hf := if_f c_88 hf
              refine lv_aload_n hx hb dX0_goOnFrom_91 rfl (lv_at hl 2 rfl) ?_
              refine lv_dup hx hb dX0_goOnFrom_92 rfl ?_
              refine gf_X0_18 X hP 0 rfl rfl dX0_goOnFrom_93 ?_
              refine lv_lload hx hb dX0_goOnFrom_96 (lv_at hl 1 rfl) ?_
              refine lv_iload hx hb dX0_goOnFrom_98 (lv_at hl 6 rfl) ?_
              refine lv_i2l (v := p4.toInt64) hx hb dX0_goOnFrom_100 rfl ?_
              refine lv_lmul hx hb dX0_goOnFrom_101 ?_
              refine lv_ladd hx hb dX0_goOnFrom_102 ?_
              refine pf_X0_18 X hP hD hS 0 rfl (Nat.le_of_ble_eq_true rfl) (ws' := (wd_X0_goOnFrom E a_t a_p2 a_p3 a_t_now a_p2_counts a_t_next (m_t_won + ((x_t_now (ix v9)) * p4.toInt64)) x_t_together w_p2_ends w_p2_comers w_p2_leaders w_p2_chains x_p2_places x_p2_beginnings x_p3 x_t_now x_p2_counts m_t_next)) rfl dX0_goOnFrom_103 (fun H locs hP hD hS => ?_)
              refine lv_goto (tgt := 180) hx hb dX0_goOnFrom_106 (by decide) ?_
              refine lv_iinc (v := (v9 + (1 : Int32))) (lv' := [(9, .int (v9 + (1 : Int32))), (12, .int ((v9 >>> ((1 : Int32) &&& 31)) ||| v8)), (10, .long (x_t_now (ix v9))), (0, .ref a_t), (1, .int p1), (2, .ref a_p2), (3, .ref a_p3), (4, .int p4), (7, .int v7), (8, .int v8)]) hx hb dX0_goOnFrom_180 hl (k := 9) rfl rfl (by decide) rfl (fun ls hl => ?_)
              refine lv_goto (tgt := 44) hx hb dX0_goOnFrom_183 (by decide) ?_
              exact ih44 v7 v8 (v9 + (1 : Int32)) (m_t_won + ((x_t_now (ix v9)) * p4.toInt64)) m_t_next hf H locs ls hP hD hS (lv_sub hl [3, 4, 5, 6, 7, 8, 9, 0] rfl)
        · have hf := if_t c_65 hf
          refine lv_goto (tgt := 180) hx hb dX0_goOnFrom_68 (by decide) ?_
          refine lv_iinc (v := (v9 + (1 : Int32))) (lv' := [(9, .int (v9 + (1 : Int32))), (10, .long (x_t_now (ix v9))), (0, .ref a_t), (1, .int p1), (2, .ref a_p2), (3, .ref a_p3), (4, .int p4), (7, .int v7), (8, .int v8)]) hx hb dX0_goOnFrom_180 hl (k := 8) rfl rfl (by decide) rfl (fun ls hl => ?_)
          refine lv_goto (tgt := 44) hx hb dX0_goOnFrom_183 (by decide) ?_
          exact ih44 v7 v8 (v9 + (1 : Int32)) m_t_won m_t_next hf H locs ls hP hD hS (lv_sub hl [2, 3, 4, 5, 6, 7, 8, 0] rfl)
  have L16 : ∀ (s0 : Int32) (m_t_won : Int64) (m_t_next : Nat → Int64), f_X0_goOnFrom_16 p1 p4 p5 x_p2_places x_p3 x_t_now x_p2_counts s0 m_t_won m_t_next = some res → ∀ (H : Heap) (locs : List Loc) (ls : Array Slot), va_P E.1 vwCl (wd_X0_goOnFrom E a_t a_p2 a_p3 a_t_now a_p2_counts a_t_next m_t_won x_t_together w_p2_ends w_p2_comers w_p2_leaders w_p2_chains x_p2_places x_p2_beginnings x_p3 x_t_now x_p2_counts m_t_next) H → va_D A (wd_X0_goOnFrom E a_t a_p2 a_p3 a_t_now a_p2_counts a_t_next m_t_won x_t_together w_p2_ends w_p2_comers w_p2_leaders w_p2_chains x_p2_places x_p2_beginnings x_p3 x_t_now x_p2_counts m_t_next) → va_S A s.heap H locs → lv_has ls 13 [(0, .ref a_t), (1, .int p1), (2, .ref a_p2), (3, .ref a_p3), (4, .int p4), (5, .long p5)] → W p l e (rmm 2 53) s m ([.ref a_t, .int p1, .ref a_p2, .ref a_p3, .int p4, .long p5] : List Value).toArray below meth c H locs 0 0 Q (F0 m 16 ls [.int s0]) := by
    intro s0 m_t_won m_t_next hf H locs ls hP hD hS hl
    rw [f_X0_goOnFrom_16] at hf
    refine lv_istore (lv' := [(7, .int s0), (0, .ref a_t), (1, .int p1), (2, .ref a_p2), (3, .ref a_p3), (4, .int p4), (5, .long p5)]) hx hb dX0_goOnFrom_16 hl (by decide) rfl (fun ls hl => ?_)
    refine lv_lload hx hb dX0_goOnFrom_18 (lv_at hl 6 rfl) ?_
    refine lv_iload_n hx hb dX0_goOnFrom_20 rfl (lv_at hl 2 rfl) ?_
    refine lv_bipush (v := (10 : Int32)) hx hb dX0_goOnFrom_21 (by decide) ?_
    refine lv_iadd hx hb dX0_goOnFrom_23 ?_
    refine lv_lushr (v := (jlushr p5 (p1 + (10 : Int32)))) hx hb dX0_goOnFrom_24 rfl ?_
    refine lv_lconst (v := (1 : Int64)) hx hb dX0_goOnFrom_25 (by decide) ?_
    refine lv_land hx hb dX0_goOnFrom_26 ?_
    refine lv_lconst (v := (0 : Int64)) hx hb dX0_goOnFrom_27 (by decide) ?_
    refine W.lcmp hx hb dX0_goOnFrom_28 ?_
    refine lv_if_ne (tgt := 36) hx hb dX0_goOnFrom_29 (by decide) (fun c_29 => ?_) (fun c_29 => ?_)
    · have hf := if_f c_29 hf
      refine lv_sipush (v := (512 : Int32)) hx hb dX0_goOnFrom_36 (by decide) ?_
      refine lv_istore (lv' := [(8, .int (512 : Int32)), (7, .int s0), (0, .ref a_t), (1, .int p1), (2, .ref a_p2), (3, .ref a_p3), (4, .int p4), (5, .long p5)]) hx hb dX0_goOnFrom_39 hl (by decide) rfl (fun ls hl => ?_)
      refine lv_iconst (v := (0 : Int32)) hx hb dX0_goOnFrom_41 (by decide) ?_
      refine lv_istore (lv' := [(9, .int (0 : Int32)), (8, .int (512 : Int32)), (7, .int s0), (0, .ref a_t), (1, .int p1), (2, .ref a_p2), (3, .ref a_p3), (4, .int p4), (5, .long p5)]) hx hb dX0_goOnFrom_42 hl (by decide) rfl (fun ls hl => ?_)
      exact L44 FU s0 (512 : Int32) (0 : Int32) m_t_won m_t_next hf H locs ls hP hD hS (lv_sub hl [3, 4, 5, 6, 7, 2, 1, 0] rfl)
    · have hf := if_t c_29 hf
      refine lv_iconst (v := (0 : Int32)) hx hb dX0_goOnFrom_32 (by decide) ?_
      refine lv_goto (tgt := 39) hx hb dX0_goOnFrom_33 (by decide) ?_
      refine lv_istore (lv' := [(8, .int (0 : Int32)), (7, .int s0), (0, .ref a_t), (1, .int p1), (2, .ref a_p2), (3, .ref a_p3), (4, .int p4), (5, .long p5)]) hx hb dX0_goOnFrom_39 hl (by decide) rfl (fun ls hl => ?_)
      refine lv_iconst (v := (0 : Int32)) hx hb dX0_goOnFrom_41 (by decide) ?_
      refine lv_istore (lv' := [(9, .int (0 : Int32)), (8, .int (0 : Int32)), (7, .int s0), (0, .ref a_t), (1, .int p1), (2, .ref a_p2), (3, .ref a_p3), (4, .int p4), (5, .long p5)]) hx hb dX0_goOnFrom_42 hl (by decide) rfl (fun ls hl => ?_)
      exact L44 FU s0 (0 : Int32) (0 : Int32) m_t_won m_t_next hf H locs ls hP hD hS (lv_sub hl [3, 4, 5, 6, 7, 2, 1, 0] rfl)
  have hS : va_S A s.heap s.heap [] := va_S.rf
  obtain ⟨H, hH9⟩ : ∃ z, z = s.heap := ⟨_, rfl⟩
  obtain ⟨locs, hL9⟩ : ∃ z : List Loc, z = [] := ⟨_, rfl⟩
  rw [← hL9]
  rw [← hL9] at hS
  have hP : va_P E.1 vwCl (wd_X0_goOnFrom E a_t a_p2 a_p3 a_t_now a_p2_counts a_t_next x_t_won x_t_together w_p2_ends w_p2_comers w_p2_leaders w_p2_chains x_p2_places x_p2_beginnings x_p3 x_t_now x_p2_counts x_t_next) H := by rw [hH9]; exact hP
  have hS : va_S A s.heap H locs := by rw [hH9]; exact hS
  suffices hgoal : W p l e (rmm 2 53) s m ([.ref a_t, .int p1, .ref a_p2, .ref a_p3, .int p4, .long p5] : List Value).toArray below meth c H locs 0 0 Q (F0 m 0 ls []) by rw [hH9] at hgoal; exact hgoal
  rw [f_X0_goOnFrom] at hf
  refine lv_lload hx hb dX0_goOnFrom_0 (lv_at hl 5 rfl) ?_
  refine lv_iload_n hx hb dX0_goOnFrom_2 rfl (lv_at hl 1 rfl) ?_
  refine lv_iconst (v := (1 : Int32)) hx hb dX0_goOnFrom_3 (by decide) ?_
  refine lv_iadd hx hb dX0_goOnFrom_4 ?_
  refine lv_lushr (v := (jlushr p5 (p1 + (1 : Int32)))) hx hb dX0_goOnFrom_5 rfl ?_
  refine lv_lconst (v := (0 : Int64)) hx hb dX0_goOnFrom_6 (by decide) ?_
  refine W.lcmp hx hb dX0_goOnFrom_7 ?_
  refine lv_if_ne (tgt := 15) hx hb dX0_goOnFrom_8 (by decide) (fun c_8 => ?_) (fun c_8 => ?_)
  · have hf := if_f c_8 hf
    refine lv_iconst (v := (0 : Int32)) hx hb dX0_goOnFrom_15 (by decide) ?_
    exact L16 (0 : Int32) x_t_won x_t_next hf H locs ls hP hD hS (lv_sub hl [0, 1, 2, 3, 4, 5] rfl)
  · have hf := if_t c_8 hf
    refine lv_iconst (v := (1 : Int32)) hx hb dX0_goOnFrom_11 (by decide) ?_
    refine lv_goto (tgt := 16) hx hb dX0_goOnFrom_12 (by decide) ?_
    exact L16 (1 : Int32) x_t_won x_t_next hf H locs ls hP hD hS (lv_sub hl [0, 1, 2, 3, 4, 5] rfl)
