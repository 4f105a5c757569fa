abbrev wd_X1_findSpots (E : EN) (a_t : Nat) (a_p1 : Nat) (a_p1_counts : Nat) (a_t_spots : Nat) (a_t_needs : Nat) (w_t_roots : Value) (w_t_weights : Value) (x_t_many : Int32) (x_t_places : Int32) (x_t_weightOfAll : Int32) (x_t_manyWeighed : Int32) (x_t_askedSpot : Int32) (x_t_askedCount : Int32) (x_t_ways : Int32) (x_t_weighed : Int64) (x_t_weighedAsked : Int64) (w_p1_ends : Value) (w_p1_comers : Value) (w_p1_leaders : Value) (w_p1_chains : Value) (x_p1_places : Int32) (x_p1_beginnings : Int32) (x_p1_counts : Nat → Int32) (x_t_spots : Nat → Int32) (x_t_needs : Nat → Int32) : va_W := [(a_t, e_O 1 [w_t_roots, .ref a_t_spots, .ref a_t_needs, w_t_weights, .int x_t_many, .int x_t_places, .int x_t_weightOfAll, .int x_t_manyWeighed, .int x_t_askedSpot, .int x_t_askedCount, .int x_t_ways, .long x_t_weighed, .long x_t_weighedAsked]), (a_p1, e_O 2 [.ref a_p1_counts, w_p1_ends, w_p1_comers, w_p1_leaders, w_p1_chains, .int x_p1_places, .int x_p1_beginnings]), (a_p1_counts, e_I E 40 x_p1_counts), (a_t_spots, e_I E 5 x_t_spots), (a_t_needs, e_I E 5 x_t_needs)]
def f_X1_findSpots_7 (x_t_places : Int32) (x_p1_counts : Nat → Int32)  : Nat → Int32 → Int32 → (Nat → Int32) → (Nat → Int32) → Option (Int32 × (Nat → Int32) × (Nat → Int32))
  | 0, _, _, _, _ => none
  | n_ + 1, v2, m_t_many, m_t_spots, m_t_needs =>
    if x_t_places ≤ v2 then
      some (m_t_many, m_t_spots, m_t_needs)
    else
      ck (inB v2 40) (
      if (x_p1_counts (ix v2)) = 0 then
        if (5 : Int32) ≤ m_t_many then
          f_X1_findSpots_7 x_t_places x_p1_counts n_ (v2 + (1 : Int32)) m_t_many m_t_spots m_t_needs
        else
          ck (inB m_t_many 5) (
          f_X1_findSpots_7 x_t_places x_p1_counts n_ (v2 + (1 : Int32)) (m_t_many + (1 : Int32)) (upd m_t_spots (ix m_t_many) v2) (upd m_t_needs (ix m_t_many) (-1 : Int32)))
      else
        f_X1_findSpots_7 x_t_places x_p1_counts n_ (v2 + (1 : Int32)) m_t_many m_t_spots m_t_needs)
def f_X1_findSpots (x_t_places : Int32) (x_p1_counts : Nat → Int32) (x_t_spots : Nat → Int32) (x_t_needs : Nat → Int32) : Option (Int32 × (Nat → Int32) × (Nat → Int32)) :=
  f_X1_findSpots_7 x_t_places x_p1_counts FU (0 : Int32) (0 : Int32) x_t_spots x_t_needs
set_option maxHeartbeats 4000000 in
set_option maxRecDepth 100000 in
theorem c_X1_findSpots (l : Launch) (E : EN) (a_t a_p1 a_p1_counts a_t_spots a_t_needs : Nat) (w_t_roots : Value) (w_t_weights : Value) (x_t_many : Int32) (x_t_places : Int32) (x_t_weightOfAll : Int32) (x_t_manyWeighed : Int32) (x_t_askedSpot : Int32) (x_t_askedCount : Int32) (x_t_ways : Int32) (x_t_weighed : Int64) (x_t_weighedAsked : Int64) (w_p1_ends : Value) (w_p1_comers : Value) (w_p1_leaders : Value) (w_p1_chains : Value) (x_p1_places : Int32) (x_p1_beginnings : Int32) (x_p1_counts : Nat → Int32) (x_t_spots : Nat → Int32) (x_t_needs : Nat → Int32)  (res : Int32 × (Nat → Int32) × (Nat → Int32)) (hf : f_X1_findSpots x_t_places x_p1_counts x_t_spots x_t_needs = some res) : CtV l yX1_findSpots cX1_findSpots 3 0 0 E [.ref a_t, .ref a_p1] (wd_X1_findSpots E a_t a_p1 a_p1_counts a_t_spots a_t_needs w_t_roots w_t_weights x_t_many x_t_places x_t_weightOfAll x_t_manyWeighed x_t_askedSpot x_t_askedCount x_t_ways x_t_weighed x_t_weighedAsked w_p1_ends w_p1_comers w_p1_leaders w_p1_chains x_p1_places x_p1_beginnings x_p1_counts x_t_spots x_t_needs) (wd_X1_findSpots E a_t a_p1 a_p1_counts a_t_spots a_t_needs w_t_roots w_t_weights res.1 x_t_places x_t_weightOfAll x_t_manyWeighed x_t_askedSpot x_t_askedCount x_t_ways x_t_weighed x_t_weighedAsked w_p1_ends w_p1_comers w_p1_leaders w_p1_chains x_p1_places x_p1_beginnings x_p1_counts res.2.1 res.2.2) := by
  refine CtV.of RX1 (by decide) rfl (Nat.le_of_ble_eq_true rfl) ?_
  intro p e s m below meth c A Q ls X hA hP hD hl fin
  have hx := X.1
  have hb := X.2.1
  have hl : lv_has ls 3 [(0, .ref a_t), (1, .ref a_p1)] := hl
  have fin' : ∀ (fr0 : Int32) (fr1 : (Nat → Int32)) (fr2 : (Nat → Int32)), some (fr0, fr1, fr2) = some res → ∀ (pc : Nat) (ls : Array Slot) (H : Heap) (locs : List Loc), decode cX1_findSpots pc = .ok (.return_, 1) → va_P E.1 vwCl (wd_X1_findSpots E a_t a_p1 a_p1_counts a_t_spots a_t_needs w_t_roots w_t_weights fr0 x_t_places x_t_weightOfAll x_t_manyWeighed x_t_askedSpot x_t_askedCount x_t_ways x_t_weighed x_t_weighedAsked w_p1_ends w_p1_comers w_p1_leaders w_p1_chains x_p1_places x_p1_beginnings x_p1_counts fr1 fr2) H → va_D A (wd_X1_findSpots E a_t a_p1 a_p1_counts a_t_spots a_t_needs w_t_roots w_t_weights fr0 x_t_places x_t_weightOfAll x_t_manyWeighed x_t_askedSpot x_t_askedCount x_t_ways x_t_weighed x_t_weighedAsked w_p1_ends w_p1_comers w_p1_leaders w_p1_chains x_p1_places x_p1_beginnings x_p1_counts fr1 fr2) → va_S A s.heap H locs → W p l e (rmm 0 0) s m ([.ref a_t, .ref a_p1] : List Value).toArray below meth c H locs 0 0 Q (F0 m pc ls []) := by
    intro fr0 fr1 fr2 he
    cases he
    exact fin
  have L7 : ∀ (n7 : Nat) (v2 : Int32) (m_t_many : Int32) (m_t_spots : Nat → Int32) (m_t_needs : Nat → Int32), f_X1_findSpots_7 x_t_places x_p1_counts n7 v2 m_t_many m_t_spots m_t_needs = some res → ∀ (H : Heap) (locs : List Loc) (ls : Array Slot), va_P E.1 vwCl (wd_X1_findSpots E a_t a_p1 a_p1_counts a_t_spots a_t_needs w_t_roots w_t_weights m_t_many x_t_places x_t_weightOfAll x_t_manyWeighed x_t_askedSpot x_t_askedCount x_t_ways x_t_weighed x_t_weighedAsked w_p1_ends w_p1_comers w_p1_leaders w_p1_chains x_p1_places x_p1_beginnings x_p1_counts m_t_spots m_t_needs) H → va_D A (wd_X1_findSpots E a_t a_p1 a_p1_counts a_t_spots a_t_needs w_t_roots w_t_weights m_t_many x_t_places x_t_weightOfAll x_t_manyWeighed x_t_askedSpot x_t_askedCount x_t_ways x_t_weighed x_t_weighedAsked w_p1_ends w_p1_comers w_p1_leaders w_p1_chains x_p1_places x_p1_beginnings x_p1_counts m_t_spots m_t_needs) → va_S A s.heap H locs → lv_has ls 3 [(0, .ref a_t), (1, .ref a_p1), (2, .int v2)] → W p l e (rmm 0 0) s m ([.ref a_t, .ref a_p1] : List Value).toArray below meth c H locs 0 0 Q (F0 m 7 ls []) := by
    intro n7
    induction n7 with
    | zero => intro v2 m_t_many m_t_spots m_t_needs hf; rw [f_X1_findSpots_7] at hf; cases hf
    | succ n7 ih7 =>
      intro v2 m_t_many m_t_spots m_t_needs hf H locs ls hP hD hS hl
      rw [f_X1_findSpots_7] at hf
      refine lv_iload_n hx hb dX1_findSpots_7 rfl (lv_at hl 2 rfl) ?_
      refine lv_aload_n hx hb dX1_findSpots_8 rfl (lv_at hl 0 rfl) ?_
      refine gf_X1_30 X hP 0 rfl rfl dX1_findSpots_9 ?_
      refine lv_icmp_ge (tgt := 68) hx hb dX1_findSpots_12 (by decide) (fun c_12 => ?_) (fun c_12 => ?_)
      · have hf := if_t c_12 hf
        exact fin' _ _ _ hf 68 ls H locs dX1_findSpots_68 hP hD hS
      · have hf := if_f c_12 hf
        refine lv_aload_n hx hb dX1_findSpots_15 rfl (lv_at hl 1 rfl) ?_
        refine gf_X1_83 X hP 1 rfl rfl dX1_findSpots_16 ?_
        refine lv_iload_n hx hb dX1_findSpots_19 rfl (lv_at hl 2 rfl) ?_
        obtain ⟨hi20, hf⟩ := ck_some hf
        refine r_iald X hP 2 rfl hi20 dX1_findSpots_20 ?_
        refine lv_if_ne (tgt := 62) hx hb dX1_findSpots_21 (by decide) (fun c_21 => ?_) (fun c_21 => ?_)
        · have hf := if_f c_21 hf
          refine lv_iinc (v := (v2 + (1 : Int32))) (lv' := [(2, .int (v2 + (1 : Int32))), (0, .ref a_t), (1, .ref a_p1)]) hx hb dX1_findSpots_62 hl (k := 2) rfl rfl (by decide) rfl (fun ls hl => ?_)
          refine lv_goto (tgt := 7) hx hb dX1_findSpots_65 (by decide) ?_
          exact ih7 (v2 + (1 : Int32)) m_t_many m_t_spots m_t_needs hf H locs ls hP hD hS (lv_sub hl [1, 2, 0] rfl)
        · have hf := if_t c_21 hf
          refine lv_aload_n hx hb dX1_findSpots_24 rfl (lv_at hl 0 rfl) ?_
          refine gf_X1_80 X hP 0 rfl rfl dX1_findSpots_25 ?_
          refine lv_iconst (v := (5 : Int32)) hx hb dX1_findSpots_28 (by decide) ?_
          refine lv_icmp_ge (tgt := 62) hx hb dX1_findSpots_29 (by decide) (fun c_29 => ?_) (fun c_29 => ?_)
          · have hf := if_t c_29 hf
            refine lv_iinc (v := (v2 + (1 : Int32))) (lv' := [(2, .int (v2 + (1 : Int32))), (0, .ref a_t), (1, .ref a_p1)]) hx hb dX1_findSpots_62 hl (k := 2) rfl rfl (by decide) rfl (fun ls hl => ?_)
            refine lv_goto (tgt := 7) hx hb dX1_findSpots_65 (by decide) ?_
            exact ih7 (v2 + (1 : Int32)) m_t_many m_t_spots m_t_needs hf H locs ls hP hD hS (lv_sub hl [1, 2, 0] rfl)
          · have hf := if_f c_29 hf
            refine lv_aload_n hx hb dX1_findSpots_32 rfl (lv_at hl 0 rfl) ?_
            refine gf_X1_15 X hP 0 rfl rfl dX1_findSpots_33 ?_
            refine lv_aload_n hx hb dX1_findSpots_36 rfl (lv_at hl 0 rfl) ?_
            refine gf_X1_80 X hP 0 rfl rfl dX1_findSpots_37 ?_
            refine lv_iload_n hx hb dX1_findSpots_40 rfl (lv_at hl 2 rfl) ?_
            obtain ⟨hi41, hf⟩ := ck_some hf
            refine r_iast X hP hD hS 3 rfl hi41 (ws' := (wd_X1_findSpots E a_t a_p1 a_p1_counts a_t_spots a_t_needs w_t_roots w_t_weights m_t_many x_t_places x_t_weightOfAll x_t_manyWeighed x_t_askedSpot x_t_askedCount x_t_ways x_t_weighed x_t_weighedAsked w_p1_ends w_p1_comers w_p1_leaders w_p1_chains x_p1_places x_p1_beginnings x_p1_counts (upd m_t_spots (ix m_t_many) v2) m_t_needs)) rfl dX1_findSpots_41 (fun H locs hP hD hS => ?_)
            refine lv_aload_n hx hb dX1_findSpots_42 rfl (lv_at hl 0 rfl) ?_
            refine gf_X1_18 X hP 0 rfl rfl dX1_findSpots_43 ?_
            refine lv_aload_n hx hb dX1_findSpots_46 rfl (lv_at hl 0 rfl) ?_
            refine gf_X1_80 X hP 0 rfl rfl dX1_findSpots_47 ?_
            refine lv_iconst (v := (-1 : Int32)) hx hb dX1_findSpots_50 (by decide) ?_
            refine r_iast X hP hD hS 4 rfl hi41 (ws' := (wd_X1_findSpots E a_t a_p1 a_p1_counts a_t_spots a_t_needs w_t_roots w_t_weights m_t_many x_t_places x_t_weightOfAll x_t_manyWeighed x_t_askedSpot x_t_askedCount x_t_ways x_t_weighed x_t_weighedAsked w_p1_ends w_p1_comers w_p1_leaders w_p1_chains x_p1_places x_p1_beginnings x_p1_counts (upd m_t_spots (ix m_t_many) v2) (upd m_t_needs (ix m_t_many) (-1 : Int32)))) rfl dX1_findSpots_51 (fun H locs hP hD hS => ?_)
            refine lv_aload_n hx hb dX1_findSpots_52 rfl (lv_at hl 0 rfl) ?_
            refine lv_dup hx hb dX1_findSpots_53 rfl ?_
            refine gf_X1_80 X hP 0 rfl rfl dX1_findSpots_54 ?_
            refine lv_iconst (v := (1 : Int32)) hx hb dX1_findSpots_57 (by decide) ?_
            refine lv_iadd hx hb dX1_findSpots_58 ?_
            refine pf_X1_80 X hP hD hS 0 rfl (Nat.le_of_ble_eq_true rfl) (ws' := (wd_X1_findSpots E a_t a_p1 a_p1_counts a_t_spots a_t_needs w_t_roots w_t_weights (m_t_many + (1 : Int32)) x_t_places x_t_weightOfAll x_t_manyWeighed x_t_askedSpot x_t_askedCount x_t_ways x_t_weighed x_t_weighedAsked w_p1_ends w_p1_comers w_p1_leaders w_p1_chains x_p1_places x_p1_beginnings x_p1_counts (upd m_t_spots (ix m_t_many) v2) (upd m_t_needs (ix m_t_many) (-1 : Int32)))) rfl dX1_findSpots_59 (fun H locs hP hD hS => ?_)
            refine lv_iinc (v := (v2 + (1 : Int32))) (lv' := [(2, .int (v2 + (1 : Int32))), (0, .ref a_t), (1, .ref a_p1)]) hx hb dX1_findSpots_62 hl (k := 2) rfl rfl (by decide) rfl (fun ls hl => ?_)
            refine lv_goto (tgt := 7) hx hb dX1_findSpots_65 (by decide) ?_
            exact ih7 (v2 + (1 : Int32)) (m_t_many + (1 : Int32)) (upd m_t_spots (ix m_t_many) v2) (upd m_t_needs (ix m_t_many) (-1 : Int32)) hf H locs ls hP hD hS (lv_sub hl [1, 2, 0] rfl)
  have hS : va_S A s.heap s.heap [] := va_S.rf
  obtain ⟨H, hH9⟩ : ∃ z, z = s.heap := ⟨_, rfl⟩
  obtain ⟨locs, hL9⟩ : ∃ z : List Loc, z = [] := ⟨_, rfl⟩
  rw [← hL9]
  rw [← hL9] at hS
  have hP : va_P E.1 vwCl (wd_X1_findSpots E a_t a_p1 a_p1_counts a_t_spots a_t_needs w_t_roots w_t_weights x_t_many x_t_places x_t_weightOfAll x_t_manyWeighed x_t_askedSpot x_t_askedCount x_t_ways x_t_weighed x_t_weighedAsked w_p1_ends w_p1_comers w_p1_leaders w_p1_chains x_p1_places x_p1_beginnings x_p1_counts x_t_spots x_t_needs) H := by rw [hH9]; exact hP
  have hS : va_S A s.heap H locs := by rw [hH9]; exact hS
  suffices hgoal : W p l e (rmm 0 0) s m ([.ref a_t, .ref a_p1] : List Value).toArray below meth c H locs 0 0 Q (F0 m 0 ls []) by rw [hH9] at hgoal; exact hgoal
  rw [f_X1_findSpots] at hf
  refine lv_aload_n hx hb dX1_findSpots_0 rfl (lv_at hl 0 rfl) ?_
  refine lv_iconst (v := (0 : Int32)) hx hb dX1_findSpots_1 (by decide) ?_
  refine pf_X1_80 X hP hD hS 0 rfl (Nat.le_of_ble_eq_true rfl) (ws' := (wd_X1_findSpots E a_t a_p1 a_p1_counts a_t_spots a_t_needs w_t_roots w_t_weights (0 : Int32) x_t_places x_t_weightOfAll x_t_manyWeighed x_t_askedSpot x_t_askedCount x_t_ways x_t_weighed x_t_weighedAsked w_p1_ends w_p1_comers w_p1_leaders w_p1_chains x_p1_places x_p1_beginnings x_p1_counts x_t_spots x_t_needs)) rfl dX1_findSpots_2 (fun H locs hP hD hS => ?_)
  refine lv_iconst (v := (0 : Int32)) hx hb dX1_findSpots_5 (by decide) ?_
  refine lv_istore_n (lv' := [(2, .int (0 : Int32)), (0, .ref a_t), (1, .ref a_p1)]) hx hb dX1_findSpots_6 rfl hl (by decide) rfl (fun ls hl => ?_)
  exact L7 FU (0 : Int32) (0 : Int32) x_t_spots x_t_needs hf H locs ls hP hD hS (lv_sub hl [1, 2, 0] rfl)
abbrev wd_X1_rootBy (E : EN) (a_t : Nat) (a_t_roots : Nat) (w_t_spots : Value) (w_t_needs : Value) (w_t_weights : Value) (x_t_many : Int32) (x_t_places : Int32) (x_t_weightOfAll : Int32) (x_t_manyWeighed : Int32) (x_t_askedSpot : Int32) (x_t_askedCount : Int32) (x_t_ways : Int32) (x_t_weighed : Int64) (x_t_weighedAsked : Int64) (x_t_roots : Nat → Int32) : va_W := [(a_t, e_O 1 [.ref a_t_roots, w_t_spots, w_t_needs, w_t_weights, .int x_t_many, .int x_t_places, .int x_t_weightOfAll, .int x_t_manyWeighed, .int x_t_askedSpot, .int x_t_askedCount, .int x_t_ways, .long x_t_weighed, .long x_t_weighedAsked]), (a_t_roots, e_I E 40 x_t_roots)]
def f_X1_rootBy (p1 : Int32) (p2 : Int32) (x_t_places : Int32) (x_t_roots : Nat → Int32) : Option (Int32) :=
  if x_t_places ≤ (p1 + p2) then
    some p1
  else
    ck (inB (p1 + p2) 40) (
    some (x_t_roots (ix (p1 + p2))))
set_option maxHeartbeats 4000000 in
set_option maxRecDepth 100000 in
theorem c_X1_rootBy (l : Launch) (E : EN) (a_t a_t_roots : Nat) (w_t_spots : Value) (w_t_needs : Value) (w_t_weights : Value) (x_t_many : Int32) (x_t_places : Int32) (x_t_weightOfAll : Int32) (x_t_manyWeighed : Int32) (x_t_askedSpot : Int32) (x_t_askedCount : Int32) (x_t_ways : Int32) (x_t_weighed : Int64) (x_t_weighedAsked : Int64) (x_t_roots : Nat → Int32) (p1 : Int32) (p2 : Int32) (res : Int32) (hf : f_X1_rootBy p1 p2 x_t_places x_t_roots = some res) : CtI l yX1_rootBy cX1_rootBy 4 .int 0 0 E [.ref a_t, .int p1, .int p2] (wd_X1_rootBy E a_t a_t_roots w_t_spots w_t_needs w_t_weights x_t_many x_t_places x_t_weightOfAll x_t_manyWeighed x_t_askedSpot x_t_askedCount x_t_ways x_t_weighed x_t_weighedAsked x_t_roots) (wd_X1_rootBy E a_t a_t_roots w_t_spots w_t_needs w_t_weights x_t_many x_t_places x_t_weightOfAll x_t_manyWeighed x_t_askedSpot x_t_askedCount x_t_ways x_t_weighed x_t_weighedAsked x_t_roots) res := by
  refine CtI.of RX1 (by decide) rfl (Nat.le_of_ble_eq_true rfl) ?_
  intro p e s m below meth c A Q ls X hA hP hD hl fin
  have hx := X.1
  have hb := X.2.1
  have hl : lv_has ls 4 [(0, .ref a_t), (1, .int p1), (2, .int p2)] := hl
  have fin' : ∀ (fr0 : Int32), some fr0 = some res → ∀ (pc : Nat) (ls : Array Slot) (H : Heap) (locs : List Loc), decode cX1_rootBy pc = .ok (.ireturn, 1) → narrow .int (.int fr0) = .int fr0 → va_P E.1 vwCl (wd_X1_rootBy E a_t a_t_roots w_t_spots w_t_needs w_t_weights x_t_many x_t_places x_t_weightOfAll x_t_manyWeighed x_t_askedSpot x_t_askedCount x_t_ways x_t_weighed x_t_weighedAsked x_t_roots) H → va_D A (wd_X1_rootBy E a_t a_t_roots w_t_spots w_t_needs w_t_weights x_t_many x_t_places x_t_weightOfAll x_t_manyWeighed x_t_askedSpot x_t_askedCount x_t_ways x_t_weighed x_t_weighedAsked x_t_roots) → va_S A s.heap H locs → W p l e (rmm 0 0) s m ([.ref a_t, .int p1, .int p2] : List Value).toArray below meth c H locs 0 0 Q (F0 m pc ls [.int fr0]) := by
    intro fr0 he
    cases he
    exact fin
  have hS : va_S A s.heap s.heap [] := va_S.rf
  obtain ⟨H, hH9⟩ : ∃ z, z = s.heap := ⟨_, rfl⟩
  obtain ⟨locs, hL9⟩ : ∃ z : List Loc, z = [] := ⟨_, rfl⟩
  rw [← hL9]
  rw [← hL9] at hS
  have hP : va_P E.1 vwCl (wd_X1_rootBy E a_t a_t_roots w_t_spots w_t_needs w_t_weights x_t_many x_t_places x_t_weightOfAll x_t_manyWeighed x_t_askedSpot x_t_askedCount x_t_ways x_t_weighed x_t_weighedAsked x_t_roots) H := by rw [hH9]; exact hP
  have hS : va_S A s.heap H locs := by rw [hH9]; exact hS
  suffices hgoal : W p l e (rmm 0 0) s m ([.ref a_t, .int p1, .int p2] : List Value).toArray below meth c H locs 0 0 Q (F0 m 0 ls []) by rw [hH9] at hgoal; exact hgoal
  rw [f_X1_rootBy] at hf
  refine lv_iload_n hx hb dX1_rootBy_0 rfl (lv_at hl 1 rfl) ?_
  refine lv_iload_n hx hb dX1_rootBy_1 rfl (lv_at hl 2 rfl) ?_
  refine lv_iadd hx hb dX1_rootBy_2 ?_
  refine lv_istore_n (lv' := [(3, .int (p1 + p2)), (0, .ref a_t), (1, .int p1), (2, .int p2)]) hx hb dX1_rootBy_3 rfl hl (by decide) rfl (fun ls hl => ?_)
  refine lv_iload_n hx hb dX1_rootBy_4 rfl (lv_at hl 0 rfl) ?_
  refine lv_aload_n hx hb dX1_rootBy_5 rfl (lv_at hl 1 rfl) ?_
  refine gf_X1_30 X hP 0 rfl rfl dX1_rootBy_6 ?_
  refine lv_icmp_ge (tgt := 21) hx hb dX1_rootBy_9 (by decide) (fun c_9 => ?_) (fun c_9 => ?_)
  · have hf := if_t c_9 hf
    refine lv_iload_n hx hb dX1_rootBy_21 rfl (lv_at hl 2 rfl) ?_
    exact fin' _ hf 22 ls H locs dX1_rootBy_22 rfl hP hD hS
  · have hf := if_f c_9 hf
    refine lv_aload_n hx hb dX1_rootBy_12 rfl (lv_at hl 1 rfl) ?_
    refine gf_X1_9 X hP 0 rfl rfl dX1_rootBy_13 ?_
    refine lv_iload_n hx hb dX1_rootBy_16 rfl (lv_at hl 0 rfl) ?_
    obtain ⟨hi17, hf⟩ := ck_some hf
    refine r_iald X hP 1 rfl hi17 dX1_rootBy_17 ?_
    refine lv_goto (tgt := 22) hx hb dX1_rootBy_18 (by decide) ?_
    exact fin' _ hf 22 ls H locs dX1_rootBy_22 rfl hP hD hS
abbrev wd_X1_findRoots (E : EN) (a_t : Nat) (a_p1 : Nat) (a_p1_counts : Nat) (a_t_roots : Nat) (w_t_spots : Value) (w_t_needs : Value) (w_t_weights : Value) (x_t_many : Int32) (x_t_places : Int32) (x_t_weightOfAll : Int32) (x_t_manyWeighed : Int32) (x_t_askedSpot : Int32) (x_t_askedCount : Int32) (x_t_ways : Int32) (x_t_weighed : Int64) (x_t_weighedAsked : Int64) (w_p1_ends : Value) (w_p1_comers : Value) (w_p1_leaders : Value) (w_p1_chains : Value) (x_p1_places : Int32) (x_p1_beginnings : Int32) (x_p1_counts : Nat → Int32) (x_t_roots : Nat → Int32) : va_W := [(a_t, e_O 1 [.ref a_t_roots, w_t_spots, w_t_needs, w_t_weights, .int x_t_many, .int x_t_places, .int x_t_weightOfAll, .int x_t_manyWeighed, .int x_t_askedSpot, .int x_t_askedCount, .int x_t_ways, .long x_t_weighed, .long x_t_weighedAsked]), (a_p1, e_O 2 [.ref a_p1_counts, w_p1_ends, w_p1_comers, w_p1_leaders, w_p1_chains, .int x_p1_places, .int x_p1_beginnings]), (a_p1_counts, e_I E 40 x_p1_counts), (a_t_roots, e_I E 40 x_t_roots)]
def f_X1_findRoots_12 (x_t_places : Int32) (x_p1_counts : Nat → Int32)  : Nat → Int32 → Int32 → (Nat → Int32) → Option ((Nat → Int32))
  | 0, _, _, _ => none
  | n_ + 1, v2, v3, m_t_roots =>
    if v3 < 0 then
      some m_t_roots
    else
      ck (inB v3 40) (
      if (x_p1_counts (ix v3)) = 0 then
        f_X1_findRoots_12 x_t_places x_p1_counts n_ (v2 + (-1 : Int32)) (v3 + (-1 : Int32)) (upd m_t_roots (ix v3) ((40 : Int32) + (v2 + (-1 : Int32))))
      else
        Option.bind (f_X1_rootBy v3 (x_p1_counts (ix v3)) x_t_places m_t_roots) (fun r54 =>
        f_X1_findRoots_12 x_t_places x_p1_counts n_ v2 (v3 + (-1 : Int32)) (upd m_t_roots (ix v3) r54)))
def f_X1_findRoots (x_t_many : Int32) (x_t_places : Int32) (x_p1_counts : Nat → Int32) (x_t_roots : Nat → Int32) : Option ((Nat → Int32)) :=
  f_X1_findRoots_12 x_t_places x_p1_counts FU x_t_many (x_t_places - (1 : Int32)) x_t_roots
set_option maxHeartbeats 4000000 in
set_option maxRecDepth 100000 in
theorem c_X1_findRoots (l : Launch) (E : EN) (a_t a_p1 a_p1_counts a_t_roots : Nat) (w_t_spots : Value) (w_t_needs : Value) (w_t_weights : Value) (x_t_many : Int32) (x_t_places : Int32) (x_t_weightOfAll : Int32) (x_t_manyWeighed : Int32) (x_t_askedSpot : Int32) (x_t_askedCount : Int32) (x_t_ways : Int32) (x_t_weighed : Int64) (x_t_weighedAsked : Int64) (w_p1_ends : Value) (w_p1_comers : Value) (w_p1_leaders : Value) (w_p1_chains : Value) (x_p1_places : Int32) (x_p1_beginnings : Int32) (x_p1_counts : Nat → Int32) (x_t_roots : Nat → Int32)  (res : (Nat → Int32)) (hf : f_X1_findRoots x_t_many x_t_places x_p1_counts x_t_roots = some res) : CtV l yX1_findRoots cX1_findRoots 4 1 23 E [.ref a_t, .ref a_p1] (wd_X1_findRoots E a_t a_p1 a_p1_counts a_t_roots w_t_spots w_t_needs w_t_weights x_t_many x_t_places x_t_weightOfAll x_t_manyWeighed x_t_askedSpot x_t_askedCount x_t_ways x_t_weighed x_t_weighedAsked w_p1_ends w_p1_comers w_p1_leaders w_p1_chains x_p1_places x_p1_beginnings x_p1_counts x_t_roots) (wd_X1_findRoots E a_t a_p1 a_p1_counts a_t_roots w_t_spots w_t_needs w_t_weights x_t_many x_t_places x_t_weightOfAll x_t_manyWeighed x_t_askedSpot x_t_askedCount x_t_ways x_t_weighed x_t_weighedAsked w_p1_ends w_p1_comers w_p1_leaders w_p1_chains x_p1_places x_p1_beginnings x_p1_counts res) := by
  refine CtV.of RX1 (by decide) rfl (Nat.le_of_ble_eq_true rfl) ?_
  intro p e s m below meth c A Q ls X hA hP hD hl fin
  have hx := X.1
  have hb := X.2.1
  have hl : lv_has ls 4 [(0, .ref a_t), (1, .ref a_p1)] := hl
  have fin' : ∀ (fr0 : (Nat → Int32)), some fr0 = some res → ∀ (pc : Nat) (ls : Array Slot) (H : Heap) (locs : List Loc), decode cX1_findRoots pc = .ok (.return_, 1) → va_P E.1 vwCl (wd_X1_findRoots E a_t a_p1 a_p1_counts a_t_roots w_t_spots w_t_needs w_t_weights x_t_many x_t_places x_t_weightOfAll x_t_manyWeighed x_t_askedSpot x_t_askedCount x_t_ways x_t_weighed x_t_weighedAsked w_p1_ends w_p1_comers w_p1_leaders w_p1_chains x_p1_places x_p1_beginnings x_p1_counts fr0) H → va_D A (wd_X1_findRoots E a_t a_p1 a_p1_counts a_t_roots w_t_spots w_t_needs w_t_weights x_t_many x_t_places x_t_weightOfAll x_t_manyWeighed x_t_askedSpot x_t_askedCount x_t_ways x_t_weighed x_t_weighedAsked w_p1_ends w_p1_comers w_p1_leaders w_p1_chains x_p1_places x_p1_beginnings x_p1_counts fr0) → va_S A s.heap H locs → W p l e (rmm 1 23) s m ([.ref a_t, .ref a_p1] : List Value).toArray below meth c H locs 0 0 Q (F0 m pc ls []) := by
    intro fr0 he
    cases he
    exact fin
  have L12 : ∀ (n12 : Nat) (v2 : Int32) (v3 : Int32) (m_t_roots : Nat → Int32), f_X1_findRoots_12 x_t_places x_p1_counts n12 v2 v3 m_t_roots = some res → ∀ (H : Heap) (locs : List Loc) (ls : Array Slot), va_P E.1 vwCl (wd_X1_findRoots E a_t a_p1 a_p1_counts a_t_roots w_t_spots w_t_needs w_t_weights x_t_many x_t_places x_t_weightOfAll x_t_manyWeighed x_t_askedSpot x_t_askedCount x_t_ways x_t_weighed x_t_weighedAsked w_p1_ends w_p1_comers w_p1_leaders w_p1_chains x_p1_places x_p1_beginnings x_p1_counts m_t_roots) H → va_D A (wd_X1_findRoots E a_t a_p1 a_p1_counts a_t_roots w_t_spots w_t_needs w_t_weights x_t_many x_t_places x_t_weightOfAll x_t_manyWeighed x_t_askedSpot x_t_askedCount x_t_ways x_t_weighed x_t_weighedAsked w_p1_ends w_p1_comers w_p1_leaders w_p1_chains x_p1_places x_p1_beginnings x_p1_counts m_t_roots) → va_S A s.heap H locs → lv_has ls 4 [(0, .ref a_t), (1, .ref a_p1), (2, .int v2), (3, .int v3)] → W p l e (rmm 1 23) s m ([.ref a_t, .ref a_p1] : List Value).toArray below meth c H locs 0 0 Q (F0 m 12 ls []) := by
    intro n12
    induction n12 with
    | zero => intro v2 v3 m_t_roots hf; rw [f_X1_findRoots_12] at hf; cases hf
    | succ n12 ih12 =>
      intro v2 v3 m_t_roots hf H locs ls hP hD hS hl
      rw [f_X1_findRoots_12] at hf
      refine lv_iload_n hx hb dX1_findRoots_12 rfl (lv_at hl 3 rfl) ?_
      refine lv_if_lt (tgt := 64) hx hb dX1_findRoots_13 (by decide) (fun c_13 => ?_) (fun c_13 => ?_)
      · have hf := if_t c_13 hf
        exact fin' _ hf 64 ls H locs dX1_findRoots_64 hP hD hS
      · have hf := if_f c_13 hf
        refine lv_aload_n hx hb dX1_findRoots_16 rfl (lv_at hl 1 rfl) ?_
        refine gf_X1_83 X hP 1 rfl rfl dX1_findRoots_17 ?_
        refine lv_iload_n hx hb dX1_findRoots_20 rfl (lv_at hl 3 rfl) ?_
        obtain ⟨hi21, hf⟩ := ck_some hf
        refine r_iald X hP 2 rfl hi21 dX1_findRoots_21 ?_
        refine lv_if_ne (tgt := 41) hx hb dX1_findRoots_22 (by decide) (fun c_22 => ?_) (fun c_22 => ?_)
        · have hf := if_f c_22 hf
          refine lv_aload_n hx hb dX1_findRoots_41 rfl (lv_at hl 0 rfl) ?_
          refine gf_X1_9 X hP 0 rfl rfl dX1_findRoots_42 ?_
          refine lv_iload_n hx hb dX1_findRoots_45 rfl (lv_at hl 3 rfl) ?_
          refine lv_aload_n hx hb dX1_findRoots_46 rfl (lv_at hl 0 rfl) ?_
          refine lv_iload_n hx hb dX1_findRoots_47 rfl (lv_at hl 3 rfl) ?_
          refine lv_aload_n hx hb dX1_findRoots_48 rfl (lv_at hl 1 rfl) ?_
          refine gf_X1_83 X hP 1 rfl rfl dX1_findRoots_49 ?_
          refine lv_iload_n hx hb dX1_findRoots_52 rfl (lv_at hl 3 rfl) ?_
          refine r_iald X hP 2 rfl hi21 dX1_findRoots_53 ?_
          obtain ⟨r54, hc54, hf⟩ := bd_some hf
          refine cV_I X hA hP hD hS hl.1 (c_X1_rootBy l E a_t a_t_roots w_t_spots w_t_needs w_t_weights x_t_many x_t_places x_t_weightOfAll x_t_manyWeighed x_t_askedSpot x_t_askedCount x_t_ways x_t_weighed x_t_weighedAsked m_t_roots v3 (x_p1_counts (ix v3)) r54 hc54) 2 k_577 mw_X1_rootBy hd_X1_rootBy ⟨Nat.le_of_ble_eq_true rfl, Nat.le_of_ble_eq_true rfl⟩ [0, 3] [1, 2] [2, 0, 1, 3] rfl rfl (wr := [1, 2].filterMap (fun i => (wd_X1_findRoots E a_t a_p1 a_p1_counts a_t_roots w_t_spots w_t_needs w_t_weights x_t_many x_t_places x_t_weightOfAll x_t_manyWeighed x_t_askedSpot x_t_askedCount x_t_ways x_t_weighed x_t_weighedAsked w_p1_ends w_p1_comers w_p1_leaders w_p1_chains x_p1_places x_p1_beginnings x_p1_counts m_t_roots)[i]?)) rfl rfl rfl 1 0 rfl rfl rfl rfl rfl (Nat.le_of_ble_eq_true rfl) rfl (ws' := (wd_X1_findRoots E a_t a_p1 a_p1_counts a_t_roots w_t_spots w_t_needs w_t_weights x_t_many x_t_places x_t_weightOfAll x_t_manyWeighed x_t_askedSpot x_t_askedCount x_t_ways x_t_weighed x_t_weighedAsked w_p1_ends w_p1_comers w_p1_leaders w_p1_chains x_p1_places x_p1_beginnings x_p1_counts m_t_roots)) rfl ⟨Nat.le_of_ble_eq_true rfl, Nat.le_of_ble_eq_true rfl⟩ dX1_findRoots_54 (fun H locs hP hD hS => ?_)
          refine r_iast X hP hD hS 3 rfl hi21 (ws' := (wd_X1_findRoots E a_t a_p1 a_p1_counts a_t_roots w_t_spots w_t_needs w_t_weights x_t_many x_t_places x_t_weightOfAll x_t_manyWeighed x_t_askedSpot x_t_askedCount x_t_ways x_t_weighed x_t_weighedAsked w_p1_ends w_p1_comers w_p1_leaders w_p1_chains x_p1_places x_p1_beginnings x_p1_counts (upd m_t_roots (ix v3) r54))) rfl dX1_findRoots_57 (fun H locs hP hD hS => ?_)
          refine lv_iinc (v := (v3 + (-1 : Int32))) (lv' := [(3, .int (v3 + (-1 : Int32))), (0, .ref a_t), (1, .ref a_p1), (2, .int v2)]) hx hb dX1_findRoots_58 hl (k := 3) rfl rfl (by decide) rfl (fun ls hl => ?_)
          refine lv_goto (tgt := 12) hx hb dX1_findRoots_61 (by decide) ?_
          exact ih12 v2 (v3 + (-1 : Int32)) (upd m_t_roots (ix v3) r54) hf H locs ls hP hD hS (lv_sub hl [1, 2, 3, 0] rfl)
        · have hf := if_t c_22 hf
          refine lv_iinc (v := (v2 + (-1 : Int32))) (lv' := [(2, .int (v2 + (-1 : Int32))), (0, .ref a_t), (1, .ref a_p1), (3, .int v3)]) hx hb dX1_findRoots_25 hl (k := 2) rfl rfl (by decide) rfl (fun ls hl => ?_)
          refine lv_aload_n hx hb dX1_findRoots_28 rfl (lv_at hl 1 rfl) ?_
          refine gf_X1_9 X hP 0 rfl rfl dX1_findRoots_29 ?_
          refine lv_iload_n hx hb dX1_findRoots_32 rfl (lv_at hl 3 rfl) ?_
          refine lv_bipush (v := (40 : Int32)) hx hb dX1_findRoots_33 (by decide) ?_
          refine lv_iload_n hx hb dX1_findRoots_35 rfl (lv_at hl 0 rfl) ?_
          refine lv_iadd hx hb dX1_findRoots_36 ?_
          refine r_iast X hP hD hS 3 rfl hi21 (ws' := (wd_X1_findRoots E a_t a_p1 a_p1_counts a_t_roots w_t_spots w_t_needs w_t_weights x_t_many x_t_places x_t_weightOfAll x_t_manyWeighed x_t_askedSpot x_t_askedCount x_t_ways x_t_weighed x_t_weighedAsked w_p1_ends w_p1_comers w_p1_leaders w_p1_chains x_p1_places x_p1_beginnings x_p1_counts (upd m_t_roots (ix v3) ((40 : Int32) + (v2 + (-1 : Int32)))))) rfl dX1_findRoots_37 (fun H locs hP hD hS => ?_)
          refine lv_goto (tgt := 58) hx hb dX1_findRoots_38 (by decide) ?_
          refine lv_iinc (v := (v3 + (-1 : Int32))) (lv' := [(3, .int (v3 + (-1 : Int32))), (2, .int (v2 + (-1 : Int32))), (0, .ref a_t), (1, .ref a_p1)]) hx hb dX1_findRoots_58 hl (k := 3) rfl rfl (by decide) rfl (fun ls hl => ?_)
          refine lv_goto (tgt := 12) hx hb dX1_findRoots_61 (by decide) ?_
          exact ih12 (v2 + (-1 : Int32)) (v3 + (-1 : Int32)) (upd m_t_roots (ix v3) ((40 : Int32) + (v2 + (-1 : Int32)))) hf H locs ls hP hD hS (lv_sub hl [2, 3, 1, 0] rfl)
  have hS : va_S A s.heap s.heap [] := va_S.rf
  obtain ⟨H, hH9⟩ : ∃ z, z = s.heap := ⟨_, rfl⟩
  obtain ⟨locs, hL9⟩ : ∃ z : List Loc, z = [] := ⟨_, rfl⟩
  rw [← hL9]
  rw [← hL9] at hS
  have hP : va_P E.1 vwCl (wd_X1_findRoots E a_t a_p1 a_p1_counts a_t_roots w_t_spots w_t_needs w_t_weights x_t_many x_t_places x_t_weightOfAll x_t_manyWeighed x_t_askedSpot x_t_askedCount x_t_ways x_t_weighed x_t_weighedAsked w_p1_ends w_p1_comers w_p1_leaders w_p1_chains x_p1_places x_p1_beginnings x_p1_counts x_t_roots) H := by rw [hH9]; exact hP
  have hS : va_S A s.heap H locs := by rw [hH9]; exact hS
  suffices hgoal : W p l e (rmm 1 23) s m ([.ref a_t, .ref a_p1] : List Value).toArray below meth c H locs 0 0 Q (F0 m 0 ls []) by rw [hH9] at hgoal; exact hgoal
  rw [f_X1_findRoots] at hf
  refine lv_aload_n hx hb dX1_findRoots_0 rfl (lv_at hl 0 rfl) ?_
  refine gf_X1_80 X hP 0 rfl rfl dX1_findRoots_1 ?_
  refine lv_istore_n (lv' := [(2, .int x_t_many), (0, .ref a_t), (1, .ref a_p1)]) hx hb dX1_findRoots_4 rfl hl (by decide) rfl (fun ls hl => ?_)
  refine lv_aload_n hx hb dX1_findRoots_5 rfl (lv_at hl 1 rfl) ?_
  refine gf_X1_30 X hP 0 rfl rfl dX1_findRoots_6 ?_
  refine lv_iconst (v := (1 : Int32)) hx hb dX1_findRoots_9 (by decide) ?_
  refine lv_isub hx hb dX1_findRoots_10 ?_
  refine lv_istore_n (lv' := [(3, .int (x_t_places - (1 : Int32))), (2, .int x_t_many), (0, .ref a_t), (1, .ref a_p1)]) hx hb dX1_findRoots_11 rfl hl (by decide) rfl (fun ls hl => ?_)
  exact L12 FU x_t_many (x_t_places - (1 : Int32)) x_t_roots hf H locs ls hP hD hS (lv_sub hl [2, 3, 1, 0] rfl)
abbrev wd_X1_takeNeeds (E : EN) (a_t : Nat) (a_p1 : Nat) (a_t_roots : Nat) (a_p1_sightFrom : Nat) (a_p1_sightOut : Nat) (a_t_needs : Nat) (w_t_spots : Value) (w_t_weights : Value) (x_t_many : Int32) (x_t_places : Int32) (x_t_weightOfAll : Int32) (x_t_manyWeighed : Int32) (x_t_askedSpot : Int32) (x_t_askedCount : Int32) (x_t_ways : Int32) (x_t_weighed : Int64) (x_t_weighedAsked : Int64) (w_p1_text : Value) (w_p1_weights : Value) (x_p1_places : Int32) (x_p1_beginnings : Int32) (x_p1_courtCount : Int32) (x_p1_allowed : Int32) (x_p1_sights : Int32) (x_p1_kept : Int32) (x_t_roots : Nat → Int32) (x_p1_sightFrom : Nat → Int32) (x_p1_sightOut : Nat → Int32) (x_t_needs : Nat → Int32) : va_W := [(a_t, e_O 1 [.ref a_t_roots, w_t_spots, .ref a_t_needs, w_t_weights, .int x_t_many, .int x_t_places, .int x_t_weightOfAll, .int x_t_manyWeighed, .int x_t_askedSpot, .int x_t_askedCount, .int x_t_ways, .long x_t_weighed, .long x_t_weighedAsked]), (a_p1, e_O 3 [w_p1_text, w_p1_weights, .ref a_p1_sightFrom, .ref a_p1_sightOut, .int x_p1_places, .int x_p1_beginnings, .int x_p1_courtCount, .int x_p1_allowed, .int x_p1_sights, .int x_p1_kept]), (a_t_roots, e_I E 40 x_t_roots), (a_p1_sightFrom, e_I E 6 x_p1_sightFrom), (a_p1_sightOut, e_I E 6 x_p1_sightOut), (a_t_needs, e_I E 5 x_t_needs)]
def f_X1_takeNeeds_2 (x_p1_sights : Int32) (x_t_roots : Nat → Int32) (x_p1_sightFrom : Nat → Int32) (x_p1_sightOut : Nat → Int32)  : Nat → Int32 → (Nat → Int32) → Option (Int32 × (Nat → Int32))
  | 0, _, _ => none
  | n_ + 1, v2, m_t_needs =>
    if x_p1_sights ≤ v2 then
      some ((1 : Int32), m_t_needs)
    else
      ck (inB v2 6) (
      ck (inB (x_p1_sightFrom (ix v2)) 40) (
      if ((x_t_roots (ix (x_p1_sightFrom (ix v2)))) - (40 : Int32)) < 0 then
        if (x_t_roots (ix (x_p1_sightFrom (ix v2)))) = (x_p1_sightOut (ix v2)) then
          f_X1_takeNeeds_2 x_p1_sights x_t_roots x_p1_sightFrom x_p1_sightOut n_ (v2 + (1 : Int32)) m_t_needs
        else
          some ((0 : Int32), m_t_needs)
      else
        if ((x_t_roots (ix (x_p1_sightFrom (ix v2)))) - (40 : Int32)) < (5 : Int32) then
          ck (inB ((x_t_roots (ix (x_p1_sightFrom (ix v2)))) - (40 : Int32)) 5) (
          if (m_t_needs (ix ((x_t_roots (ix (x_p1_sightFrom (ix v2)))) - (40 : Int32)))) = (-1 : Int32) then
            f_X1_takeNeeds_2 x_p1_sights x_t_roots x_p1_sightFrom x_p1_sightOut n_ (v2 + (1 : Int32)) (upd m_t_needs (ix ((x_t_roots (ix (x_p1_sightFrom (ix v2)))) - (40 : Int32))) (x_p1_sightOut (ix v2)))
          else
            if (m_t_needs (ix ((x_t_roots (ix (x_p1_sightFrom (ix v2)))) - (40 : Int32)))) = (x_p1_sightOut (ix v2)) then
              f_X1_takeNeeds_2 x_p1_sights x_t_roots x_p1_sightFrom x_p1_sightOut n_ (v2 + (1 : Int32)) m_t_needs
            else
              some ((0 : Int32), m_t_needs))
        else
          if (x_t_roots (ix (x_p1_sightFrom (ix v2)))) = (x_p1_sightOut (ix v2)) then
            f_X1_takeNeeds_2 x_p1_sights x_t_roots x_p1_sightFrom x_p1_sightOut n_ (v2 + (1 : Int32)) m_t_needs
          else
            some ((0 : Int32), m_t_needs)))
def f_X1_takeNeeds (x_p1_sights : Int32) (x_t_roots : Nat → Int32) (x_p1_sightFrom : Nat → Int32) (x_p1_sightOut : Nat → Int32) (x_t_needs : Nat → Int32) : Option (Int32 × (Nat → Int32)) :=
  f_X1_takeNeeds_2 x_p1_sights x_t_roots x_p1_sightFrom x_p1_sightOut FU (0 : Int32) x_t_needs
set_option maxHeartbeats 4000000 in
set_option maxRecDepth 100000 in
theorem c_X1_takeNeeds (l : Launch) (E : EN) (a_t a_p1 a_t_roots a_p1_sightFrom a_p1_sightOut a_t_needs : Nat) (w_t_spots : Value) (w_t_weights : Value) (x_t_many : Int32) (x_t_places : Int32) (x_t_weightOfAll : Int32) (x_t_manyWeighed : Int32) (x_t_askedSpot : Int32) (x_t_askedCount : Int32) (x_t_ways : Int32) (x_t_weighed : Int64) (x_t_weighedAsked : Int64) (w_p1_text : Value) (w_p1_weights : Value) (x_p1_places : Int32) (x_p1_beginnings : Int32) (x_p1_courtCount : Int32) (x_p1_allowed : Int32) (x_p1_sights : Int32) (x_p1_kept : Int32) (x_t_roots : Nat → Int32) (x_p1_sightFrom : Nat → Int32) (x_p1_sightOut : Nat → Int32) (x_t_needs : Nat → Int32)  (res : Int32 × (Nat → Int32)) (hf : f_X1_takeNeeds x_p1_sights x_t_roots x_p1_sightFrom x_p1_sightOut x_t_needs = some res) : CtI l yX1_takeNeeds cX1_takeNeeds 6 .boolean 0 0 E [.ref a_t, .ref a_p1] (wd_X1_takeNeeds E a_t a_p1 a_t_roots a_p1_sightFrom a_p1_sightOut a_t_needs w_t_spots w_t_weights x_t_many x_t_places x_t_weightOfAll x_t_manyWeighed x_t_askedSpot x_t_askedCount x_t_ways x_t_weighed x_t_weighedAsked w_p1_text w_p1_weights x_p1_places x_p1_beginnings x_p1_courtCount x_p1_allowed x_p1_sights x_p1_kept x_t_roots x_p1_sightFrom x_p1_sightOut x_t_needs) (wd_X1_takeNeeds E a_t a_p1 a_t_roots a_p1_sightFrom a_p1_sightOut a_t_needs w_t_spots w_t_weights x_t_many x_t_places x_t_weightOfAll x_t_manyWeighed x_t_askedSpot x_t_askedCount x_t_ways x_t_weighed x_t_weighedAsked w_p1_text w_p1_weights x_p1_places x_p1_beginnings x_p1_courtCount x_p1_allowed x_p1_sights x_p1_kept x_t_roots x_p1_sightFrom x_p1_sightOut res.2) res.1 := by
  refine CtI.of RX1 (by decide) rfl (Nat.le_of_ble_eq_true rfl) ?_
  intro p e s m below meth c A Q ls X hA hP hD hl fin
  have hx := X.1
  have hb := X.2.1
  have hl : lv_has ls 6 [(0, .ref a_t), (1, .ref a_p1)] := hl
  have fin' : ∀ (fr0 : Int32) (fr1 : (Nat → Int32)), some (fr0, fr1) = some res → ∀ (pc : Nat) (ls : Array Slot) (H : Heap) (locs : List Loc), decode cX1_takeNeeds pc = .ok (.ireturn, 1) → narrow .boolean (.int fr0) = .int fr0 → va_P E.1 vwCl (wd_X1_takeNeeds E a_t a_p1 a_t_roots a_p1_sightFrom a_p1_sightOut a_t_needs w_t_spots w_t_weights x_t_many x_t_places x_t_weightOfAll x_t_manyWeighed x_t_askedSpot x_t_askedCount x_t_ways x_t_weighed x_t_weighedAsked w_p1_text w_p1_weights x_p1_places x_p1_beginnings x_p1_courtCount x_p1_allowed x_p1_sights x_p1_kept x_t_roots x_p1_sightFrom x_p1_sightOut fr1) H → va_D A (wd_X1_takeNeeds E a_t a_p1 a_t_roots a_p1_sightFrom a_p1_sightOut a_t_needs w_t_spots w_t_weights x_t_many x_t_places x_t_weightOfAll x_t_manyWeighed x_t_askedSpot x_t_askedCount x_t_ways x_t_weighed x_t_weighedAsked w_p1_text w_p1_weights x_p1_places x_p1_beginnings x_p1_courtCount x_p1_allowed x_p1_sights x_p1_kept x_t_roots x_p1_sightFrom x_p1_sightOut fr1) → va_S A s.heap H locs → W p l e (rmm 0 0) s m ([.ref a_t, .ref a_p1] : List Value).toArray below meth c H locs 0 0 Q (F0 m pc ls [.int fr0]) := by
    intro fr0 fr1 he
    cases he
    exact fin
  have L2 : ∀ (n2 : Nat) (v2 : Int32) (m_t_needs : Nat → Int32), f_X1_takeNeeds_2 x_p1_sights x_t_roots x_p1_sightFrom x_p1_sightOut n2 v2 m_t_needs = some res → ∀ (H : Heap) (locs : List Loc) (ls : Array Slot), va_P E.1 vwCl (wd_X1_takeNeeds E a_t a_p1 a_t_roots a_p1_sightFrom a_p1_sightOut a_t_needs w_t_spots w_t_weights x_t_many x_t_places x_t_weightOfAll x_t_manyWeighed x_t_askedSpot x_t_askedCount x_t_ways x_t_weighed x_t_weighedAsked w_p1_text w_p1_weights x_p1_places x_p1_beginnings x_p1_courtCount x_p1_allowed x_p1_sights x_p1_kept x_t_roots x_p1_sightFrom x_p1_sightOut m_t_needs) H → va_D A (wd_X1_takeNeeds E a_t a_p1 a_t_roots a_p1_sightFrom a_p1_sightOut a_t_needs w_t_spots w_t_weights x_t_many x_t_places x_t_weightOfAll x_t_manyWeighed x_t_askedSpot x_t_askedCount x_t_ways x_t_weighed x_t_weighedAsked w_p1_text w_p1_weights x_p1_places x_p1_beginnings x_p1_courtCount x_p1_allowed x_p1_sights x_p1_kept x_t_roots x_p1_sightFrom x_p1_sightOut m_t_needs) → va_S A s.heap H locs → lv_has ls 6 [(0, .ref a_t), (1, .ref a_p1), (2, .int v2)] → W p l e (rmm 0 0) s m ([.ref a_t, .ref a_p1] : List Value).toArray below meth c H locs 0 0 Q (F0 m 2 ls []) := by
    intro n2
    induction n2 with
    | zero => intro v2 m_t_needs hf; rw [f_X1_takeNeeds_2] at hf; cases hf
    | succ n2 ih2 =>
      intro v2 m_t_needs hf H locs ls hP hD hS hl
      rw [f_X1_takeNeeds_2] at hf
      refine lv_iload_n hx hb dX1_takeNeeds_2 rfl (lv_at hl 2 rfl) ?_
      refine lv_aload_n hx hb dX1_takeNeeds_3 rfl (lv_at hl 1 rfl) ?_
      refine gf_X1_90 X hP 1 rfl rfl dX1_takeNeeds_4 ?_
      refine lv_icmp_ge (tgt := 98) hx hb dX1_takeNeeds_7 (by decide) (fun c_7 => ?_) (fun c_7 => ?_)
      · have hf := if_t c_7 hf
        refine lv_iconst (v := (1 : Int32)) hx hb dX1_takeNeeds_98 (by decide) ?_
        exact fin' _ _ hf 99 ls H locs dX1_takeNeeds_99 rfl hP hD hS
      · have hf := if_f c_7 hf
        refine lv_aload_n hx hb dX1_takeNeeds_10 rfl (lv_at hl 0 rfl) ?_
        refine gf_X1_9 X hP 0 rfl rfl dX1_takeNeeds_11 ?_
        refine lv_aload_n hx hb dX1_takeNeeds_14 rfl (lv_at hl 1 rfl) ?_
        refine gf_X1_93 X hP 1 rfl rfl dX1_takeNeeds_15 ?_
        refine lv_iload_n hx hb dX1_takeNeeds_18 rfl (lv_at hl 2 rfl) ?_
        obtain ⟨hi19, hf⟩ := ck_some hf
        refine r_iald X hP 3 rfl hi19 dX1_takeNeeds_19 ?_
        obtain ⟨hi20, hf⟩ := ck_some hf
        refine r_iald X hP 2 rfl hi20 dX1_takeNeeds_20 ?_
        refine lv_istore_n (lv' := [(3, .int (x_t_roots (ix (x_p1_sightFrom (ix v2))))), (0, .ref a_t), (1, .ref a_p1), (2, .int v2)]) hx hb dX1_takeNeeds_21 rfl hl (by decide) rfl (fun ls hl => ?_)
        refine lv_aload_n hx hb dX1_takeNeeds_22 rfl (lv_at hl 2 rfl) ?_
        refine gf_X1_96 X hP 1 rfl rfl dX1_takeNeeds_23 ?_
        refine lv_iload_n hx hb dX1_takeNeeds_26 rfl (lv_at hl 3 rfl) ?_
        refine r_iald X hP 4 rfl hi19 dX1_takeNeeds_27 ?_
        refine lv_istore (lv' := [(4, .int (x_p1_sightOut (ix v2))), (3, .int (x_t_roots (ix (x_p1_sightFrom (ix v2))))), (0, .ref a_t), (1, .ref a_p1), (2, .int v2)]) hx hb dX1_takeNeeds_28 hl (by decide) rfl (fun ls hl => ?_)
        refine lv_iload_n hx hb dX1_takeNeeds_30 rfl (lv_at hl 1 rfl) ?_
        refine lv_bipush (v := (40 : Int32)) hx hb dX1_takeNeeds_31 (by decide) ?_
        refine lv_isub hx hb dX1_takeNeeds_33 ?_
        refine lv_istore (lv' := [(5, .int ((x_t_roots (ix (x_p1_sightFrom (ix v2)))) - (40 : Int32))), (4, .int (x_p1_sightOut (ix v2))), (3, .int (x_t_roots (ix (x_p1_sightFrom (ix v2))))), (0, .ref a_t), (1, .ref a_p1), (2, .int v2)]) hx hb dX1_takeNeeds_34 hl (by decide) rfl (fun ls hl => ?_)
        refine lv_iload hx hb dX1_takeNeeds_36 (lv_at hl 0 rfl) ?_
        refine lv_if_lt (tgt := 47) hx hb dX1_takeNeeds_38 (by decide) (fun c_38 => ?_) (fun c_38 => ?_)
        · have hf := if_t c_38 hf
          refine lv_iload_n hx hb dX1_takeNeeds_47 rfl (lv_at hl 2 rfl) ?_
          refine lv_iload hx hb dX1_takeNeeds_48 (lv_at hl 1 rfl) ?_
          refine lv_icmp_eq (tgt := 92) hx hb dX1_takeNeeds_50 (by decide) (fun c_50 => ?_) (fun c_50 => ?_)
          · have hf := if_t c_50 hf
            refine lv_iinc (v := (v2 + (1 : Int32))) (lv' := [(2, .int (v2 + (1 : Int32))), (5, .int ((x_t_roots (ix (x_p1_sightFrom (ix v2)))) - (40 : Int32))), (4, .int (x_p1_sightOut (ix v2))), (3, .int (x_t_roots (ix (x_p1_sightFrom (ix v2))))), (0, .ref a_t), (1, .ref a_p1)]) hx hb dX1_takeNeeds_92 hl (k := 5) rfl rfl (by decide) rfl (fun ls hl => ?_)
            refine lv_goto (tgt := 2) hx hb dX1_takeNeeds_95 (by decide) ?_
            exact ih2 (v2 + (1 : Int32)) m_t_needs hf H locs ls hP hD hS (lv_sub hl [4, 5, 0] rfl)
          · have hf := if_f c_50 hf
            refine lv_iconst (v := (0 : Int32)) hx hb dX1_takeNeeds_53 (by decide) ?_
            exact fin' _ _ hf 54 ls H locs dX1_takeNeeds_54 rfl hP hD hS
        · have hf := if_f c_38 hf
          refine lv_iload hx hb dX1_takeNeeds_41 (lv_at hl 0 rfl) ?_
          refine lv_iconst (v := (5 : Int32)) hx hb dX1_takeNeeds_43 (by decide) ?_
          refine lv_icmp_lt (tgt := 55) hx hb dX1_takeNeeds_44 (by decide) (fun c_44 => ?_) (fun c_44 => ?_)
          · have hf := if_t c_44 hf
            refine lv_aload_n hx hb dX1_takeNeeds_55 rfl (lv_at hl 3 rfl) ?_
            refine gf_X1_18 X hP 0 rfl rfl dX1_takeNeeds_56 ?_
            refine lv_iload hx hb dX1_takeNeeds_59 (lv_at hl 0 rfl) ?_
            obtain ⟨hi61, hf⟩ := ck_some hf
            refine r_iald X hP 5 rfl hi61 dX1_takeNeeds_61 ?_
            refine lv_iconst (v := (-1 : Int32)) hx hb dX1_takeNeeds_62 (by decide) ?_
            refine lv_icmp_ne (tgt := 78) hx hb dX1_takeNeeds_63 (by decide) (fun c_63 => ?_) (fun c_63 => ?_)
            · have hf := if_f c_63 hf
              refine lv_aload_n hx hb dX1_takeNeeds_78 rfl (lv_at hl 3 rfl) ?_
              refine gf_X1_18 X hP 0 rfl rfl dX1_takeNeeds_79 ?_
              refine lv_iload hx hb dX1_takeNeeds_82 (lv_at hl 0 rfl) ?_
              refine r_iald X hP 5 rfl hi61 dX1_takeNeeds_84 ?_
              refine lv_iload hx hb dX1_takeNeeds_85 (lv_at hl 1 rfl) ?_
              refine lv_icmp_eq (tgt := 92) hx hb dX1_takeNeeds_87 (by decide) (fun c_87 => ?_) (fun c_87 => ?_)
              · have hf := if_t c_87 hf
                refine lv_iinc (v := (v2 + (1 : Int32))) (lv' := [(2, .int (v2 + (1 : Int32))), (5, .int ((x_t_roots (ix (x_p1_sightFrom (ix v2)))) - (40 : Int32))), (4, .int (x_p1_sightOut (ix v2))), (3, .int (x_t_roots (ix (x_p1_sightFrom (ix v2))))), (0, .ref a_t), (1, .ref a_p1)]) hx hb dX1_takeNeeds_92 hl (k := 5) rfl rfl (by decide) rfl (fun ls hl => ?_)
                refine lv_goto (tgt := 2) hx hb dX1_takeNeeds_95 (by decide) ?_
                exact ih2 (v2 + (1 : Int32)) m_t_needs hf H locs ls hP hD hS (lv_sub hl [4, 5, 0] rfl)
              · have hf := if_f c_87 hf
                refine lv_iconst (v := (0 : Int32)) hx hb dX1_takeNeeds_90 (by decide) ?_
                exact fin' _ _ hf 91 ls H locs dX1_takeNeeds_91 rfl hP hD hS
            · have hf := if_t c_63 hf
              refine lv_aload_n hx hb dX1_takeNeeds_66 rfl (lv_at hl 3 rfl) ?_
              refine gf_X1_18 X hP 0 rfl rfl dX1_takeNeeds_67 ?_
              refine lv_iload hx hb dX1_takeNeeds_70 (lv_at hl 0 rfl) ?_
              refine lv_iload hx hb dX1_takeNeeds_72 (lv_at hl 1 rfl) ?_
              refine r_iast X hP hD hS 5 rfl hi61 (ws' := (wd_X1_takeNeeds E a_t a_p1 a_t_roots a_p1_sightFrom a_p1_sightOut a_t_needs w_t_spots w_t_weights x_t_many x_t_places x_t_weightOfAll x_t_manyWeighed x_t_askedSpot x_t_askedCount x_t_ways x_t_weighed x_t_weighedAsked w_p1_text w_p1_weights x_p1_places x_p1_beginnings x_p1_courtCount x_p1_allowed x_p1_sights x_p1_kept x_t_roots x_p1_sightFrom x_p1_sightOut (upd m_t_needs (ix ((x_t_roots (ix (x_p1_sightFrom (ix v2)))) - (40 : Int32))) (x_p1_sightOut (ix v2))))) rfl dX1_takeNeeds_74 (fun H locs hP hD hS => ?_)
              refine lv_goto (tgt := 92) hx hb dX1_takeNeeds_75 (by decide) ?_
              refine lv_iinc (v := (v2 + (1 : Int32))) (lv' := [(2, .int (v2 + (1 : Int32))), (5, .int ((x_t_roots (ix (x_p1_sightFrom (ix v2)))) - (40 : Int32))), (4, .int (x_p1_sightOut (ix v2))), (3, .int (x_t_roots (ix (x_p1_sightFrom (ix v2))))), (0, .ref a_t), (1, .ref a_p1)]) hx hb dX1_takeNeeds_92 hl (k := 5) rfl rfl (by decide) rfl (fun ls hl => ?_)
              refine lv_goto (tgt := 2) hx hb dX1_takeNeeds_95 (by decide) ?_
              exact ih2 (v2 + (1 : Int32)) (upd m_t_needs (ix ((x_t_roots (ix (x_p1_sightFrom (ix v2)))) - (40 : Int32))) (x_p1_sightOut (ix v2))) hf H locs ls hP hD hS (lv_sub hl [4, 5, 0] rfl)
          · have hf := if_f c_44 hf
            refine lv_iload_n hx hb dX1_takeNeeds_47 rfl (lv_at hl 2 rfl) ?_
            refine lv_iload hx hb dX1_takeNeeds_48 (lv_at hl 1 rfl) ?_
            refine lv_icmp_eq (tgt := 92) hx hb dX1_takeNeeds_50 (by decide) (fun c_50 => ?_) (fun c_50 => ?_)
            · have hf := if_t c_50 hf
              refine lv_iinc (v := (v2 + (1 : Int32))) (lv' := [(2, .int (v2 + (1 : Int32))), (5, .int ((x_t_roots (ix (x_p1_sightFrom (ix v2)))) - (40 : Int32))), (4, .int (x_p1_sightOut (ix v2))), (3, .int (x_t_roots (ix (x_p1_sightFrom (ix v2))))), (0, .ref a_t), (1, .ref a_p1)]) hx hb dX1_takeNeeds_92 hl (k := 5) rfl rfl (by decide) rfl (fun ls hl => ?_)
              refine lv_goto (tgt := 2) hx hb dX1_takeNeeds_95 (by decide) ?_
              exact ih2 (v2 + (1 : Int32)) m_t_needs hf H locs ls hP hD hS (lv_sub hl [4, 5, 0] rfl)
            · have hf := if_f c_50 hf
              refine lv_iconst (v := (0 : Int32)) hx hb dX1_takeNeeds_53 (by decide) ?_
              exact fin' _ _ hf 54 ls H locs dX1_takeNeeds_54 rfl hP hD hS
  have hS : va_S A s.heap s.heap [] := va_S.rf
  obtain ⟨H, hH9⟩ : ∃ z, z = s.heap := ⟨_, rfl⟩
  obtain ⟨locs, hL9⟩ : ∃ z : List Loc, z = [] := ⟨_, rfl⟩
  rw [← hL9]
  rw [← hL9] at hS
  have hP : va_P E.1 vwCl (wd_X1_takeNeeds E a_t a_p1 a_t_roots a_p1_sightFrom a_p1_sightOut a_t_needs w_t_spots w_t_weights x_t_many x_t_places x_t_weightOfAll x_t_manyWeighed x_t_askedSpot x_t_askedCount x_t_ways x_t_weighed x_t_weighedAsked w_p1_text w_p1_weights x_p1_places x_p1_beginnings x_p1_courtCount x_p1_allowed x_p1_sights x_p1_kept x_t_roots x_p1_sightFrom x_p1_sightOut x_t_needs) H := by rw [hH9]; exact hP
  have hS : va_S A s.heap H locs := by rw [hH9]; exact hS
  suffices hgoal : W p l e (rmm 0 0) s m ([.ref a_t, .ref a_p1] : List Value).toArray below meth c H locs 0 0 Q (F0 m 0 ls []) by rw [hH9] at hgoal; exact hgoal
  rw [f_X1_takeNeeds] at hf
  refine lv_iconst (v := (0 : Int32)) hx hb dX1_takeNeeds_0 (by decide) ?_
  refine lv_istore_n (lv' := [(2, .int (0 : Int32)), (0, .ref a_t), (1, .ref a_p1)]) hx hb dX1_takeNeeds_1 rfl hl (by decide) rfl (fun ls hl => ?_)
  exact L2 FU (0 : Int32) x_t_needs hf H locs ls hP hD hS (lv_sub hl [1, 2, 0] rfl)
