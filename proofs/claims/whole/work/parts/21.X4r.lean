abbrev wd_X4_goOn (E : EN) (a_t : Nat) (a_t_tried : Nat) (a_t_kept : Nat) (a_t_counts : Nat) (x_t_places : Int32) (x_t_beginnings : Int32) (x_t_allowed : Int32) (x_t_leastAllowed : Int32) (x_t_manyAllowed : Int32) (x_t_wish : Int32) (x_t_wishPlace : Int32) (x_t_soonestFirst : Int32) (x_t_ways : Int32) (x_t_leastRank : Int32) (x_t_tried : Nat → Int32) (x_t_kept : Nat → Int32) (x_t_counts : Nat → Int32) : va_W := [(a_t, e_O 4 [.ref a_t_kept, .ref a_t_tried, .ref a_t_counts, .int x_t_places, .int x_t_beginnings, .int x_t_allowed, .int x_t_leastAllowed, .int x_t_manyAllowed, .int x_t_wish, .int x_t_wishPlace, .int x_t_soonestFirst, .int x_t_ways, .int x_t_leastRank]), (a_t_tried, e_I E 4 x_t_tried), (a_t_kept, e_I E 4 x_t_kept), (a_t_counts, e_I E 40 x_t_counts)]
abbrev wd_X4_tryCounts (E : EN) (a_t : Nat) (a_t_tried : Nat) (a_t_kept : Nat) (a_t_counts : Nat) (x_t_places : Int32) (x_t_beginnings : Int32) (x_t_allowed : Int32) (x_t_leastAllowed : Int32) (x_t_manyAllowed : Int32) (x_t_wish : Int32) (x_t_wishPlace : Int32) (x_t_soonestFirst : Int32) (x_t_ways : Int32) (x_t_leastRank : Int32) (x_t_tried : Nat → Int32) (x_t_kept : Nat → Int32) (x_t_counts : Nat → Int32) : va_W := [(a_t, e_O 4 [.ref a_t_kept, .ref a_t_tried, .ref a_t_counts, .int x_t_places, .int x_t_beginnings, .int x_t_allowed, .int x_t_leastAllowed, .int x_t_manyAllowed, .int x_t_wish, .int x_t_wishPlace, .int x_t_soonestFirst, .int x_t_ways, .int x_t_leastRank]), (a_t_tried, e_I E 4 x_t_tried), (a_t_kept, e_I E 4 x_t_kept), (a_t_counts, e_I E 40 x_t_counts)]
def f_X4_tryCounts_3 (G : Int32 → Int32 → Int64 → Int64 → Int64 → Int32 → Int32 → Int32 → Int32 → Int32 → Int32 → Int32 → Int32 → Int32 → Int32 → Int32 → (Nat → Int32) → (Nat → Int32) → (Nat → Int32) → Option (Int32 × Int32 × (Nat → Int32) × (Nat → Int32))) (p1 : Int32) (p2 : Int32) (p3 : Int64) (p4 : Int64) (p5 : Int64) (p6 : Int32) (x_t_places : Int32) (x_t_beginnings : Int32) (x_t_allowed : Int32) (x_t_leastAllowed : Int32) (x_t_manyAllowed : Int32) (x_t_wish : Int32) (x_t_wishPlace : Int32) (x_t_soonestFirst : Int32) (x_t_counts : Nat → Int32)  : Nat → Int32 → Int32 → Int32 → (Nat → Int32) → (Nat → Int32) → Option (Int32 × Int32 × (Nat → Int32) × (Nat → Int32))
  | 0, _, _, _, _, _ => none
  | n_ + 1, v10, m_t_ways, m_t_leastRank, m_t_tried, m_t_kept =>
    if (10 : Int32) < v10 then
      some (m_t_ways, m_t_leastRank, m_t_tried, m_t_kept)
    else
      if ((x_t_allowed >>> (v10 &&& 31)) &&& (1 : Int32)) = 0 then
        f_X4_tryCounts_3 G p1 p2 p3 p4 p5 p6 x_t_places x_t_beginnings x_t_allowed x_t_leastAllowed x_t_manyAllowed x_t_wish x_t_wishPlace x_t_soonestFirst x_t_counts n_ (v10 + (1 : Int32)) m_t_ways m_t_leastRank m_t_tried m_t_kept
      else
        ck (inB p2 4) (
        if x_t_places ≤ (p1 + v10) then
          Option.bind (G (p1 + (1 : Int32)) (p2 + (1 : Int32)) p3 (p4 ||| (jlshl (1 : Int64) p1)) p5 p6 x_t_places x_t_beginnings x_t_allowed x_t_leastAllowed x_t_manyAllowed x_t_wish x_t_wishPlace x_t_soonestFirst m_t_ways m_t_leastRank (upd m_t_tried (ix p2) v10) m_t_kept x_t_counts) (fun r89 =>
          f_X4_tryCounts_3 G p1 p2 p3 p4 p5 p6 x_t_places x_t_beginnings x_t_allowed x_t_leastAllowed x_t_manyAllowed x_t_wish x_t_wishPlace x_t_soonestFirst x_t_counts n_ (v10 + (1 : Int32)) r89.1 r89.2.1 r89.2.2.1 r89.2.2.2)
        else
          Option.bind (G (p1 + (1 : Int32)) (p2 + (1 : Int32)) (p3 ||| (jlshl (1 : Int64) (p1 + v10))) p4 p5 p6 x_t_places x_t_beginnings x_t_allowed x_t_leastAllowed x_t_manyAllowed x_t_wish x_t_wishPlace x_t_soonestFirst m_t_ways m_t_leastRank (upd m_t_tried (ix p2) v10) m_t_kept x_t_counts) (fun r65 =>
          f_X4_tryCounts_3 G p1 p2 p3 p4 p5 p6 x_t_places x_t_beginnings x_t_allowed x_t_leastAllowed x_t_manyAllowed x_t_wish x_t_wishPlace x_t_soonestFirst x_t_counts n_ (v10 + (1 : Int32)) r65.1 r65.2.1 r65.2.2.1 r65.2.2.2))
def f_X4_tryCounts (G : Int32 → Int32 → Int64 → Int64 → Int64 → Int32 → Int32 → Int32 → Int32 → Int32 → Int32 → Int32 → Int32 → Int32 → Int32 → Int32 → (Nat → Int32) → (Nat → Int32) → (Nat → Int32) → Option (Int32 × Int32 × (Nat → Int32) × (Nat → Int32))) (p1 : Int32) (p2 : Int32) (p3 : Int64) (p4 : Int64) (p5 : Int64) (p6 : Int32) (x_t_places : Int32) (x_t_beginnings : Int32) (x_t_allowed : Int32) (x_t_leastAllowed : Int32) (x_t_manyAllowed : Int32) (x_t_wish : Int32) (x_t_wishPlace : Int32) (x_t_soonestFirst : Int32) (x_t_ways : Int32) (x_t_leastRank : Int32) (x_t_tried : Nat → Int32) (x_t_kept : Nat → Int32) (x_t_counts : Nat → Int32) : Option (Int32 × Int32 × (Nat → Int32) × (Nat → Int32)) :=
  f_X4_tryCounts_3 G p1 p2 p3 p4 p5 p6 x_t_places x_t_beginnings x_t_allowed x_t_leastAllowed x_t_manyAllowed x_t_wish x_t_wishPlace x_t_soonestFirst x_t_counts FU (1 : Int32) x_t_ways x_t_leastRank x_t_tried x_t_kept
set_option maxHeartbeats 4000000 in
set_option maxRecDepth 100000 in
theorem c_X4_tryCounts (l : Launch) (E : EN) (a_t a_t_tried a_t_kept a_t_counts : Nat) (G : Int32 → Int32 → Int64 → Int64 → Int64 → Int32 → Int32 → Int32 → Int32 → Int32 → Int32 → Int32 → Int32 → Int32 → Int32 → Int32 → (Nat → Int32) → (Nat → Int32) → (Nat → Int32) → Option (Int32 × Int32 × (Nat → Int32) × (Nat → Int32))) (f0 k0 : Nat) (hG : ∀ (x_t_places : Int32) (x_t_beginnings : Int32) (x_t_allowed : Int32) (x_t_leastAllowed : Int32) (x_t_manyAllowed : Int32) (x_t_wish : Int32) (x_t_wishPlace : Int32) (x_t_soonestFirst : Int32) (x_t_ways : Int32) (x_t_leastRank : Int32) (x_t_tried : Nat → Int32) (x_t_kept : Nat → Int32) (x_t_counts : Nat → Int32) (p1 : Int32) (p2 : Int32) (p3 : Int64) (p4 : Int64) (p5 : Int64) (p6 : Int32) (res : Int32 × Int32 × (Nat → Int32) × (Nat → Int32)), G p1 p2 p3 p4 p5 p6 x_t_places x_t_beginnings x_t_allowed x_t_leastAllowed x_t_manyAllowed x_t_wish x_t_wishPlace x_t_soonestFirst x_t_ways x_t_leastRank x_t_tried x_t_kept x_t_counts = some res → CtV l yX4_goOn cX4_goOn 20 f0 k0 E [.ref a_t, .int p1, .int p2, .long p3, .long p4, .long p5, .int p6] (wd_X4_goOn E a_t a_t_tried a_t_kept a_t_counts x_t_places x_t_beginnings x_t_allowed x_t_leastAllowed x_t_manyAllowed x_t_wish x_t_wishPlace x_t_soonestFirst x_t_ways x_t_leastRank x_t_tried x_t_kept x_t_counts) (wd_X4_goOn E a_t a_t_tried a_t_kept a_t_counts x_t_places x_t_beginnings x_t_allowed x_t_leastAllowed x_t_manyAllowed x_t_wish x_t_wishPlace x_t_soonestFirst res.1 res.2.1 res.2.2.1 res.2.2.2 x_t_counts)) (x_t_places : Int32) (x_t_beginnings : Int32) (x_t_allowed : Int32) (x_t_leastAllowed : Int32) (x_t_manyAllowed : Int32) (x_t_wish : Int32) (x_t_wishPlace : Int32) (x_t_soonestFirst : Int32) (x_t_ways : Int32) (x_t_leastRank : Int32) (x_t_tried : Nat → Int32) (x_t_kept : Nat → Int32) (x_t_counts : Nat → Int32) (p1 : Int32) (p2 : Int32) (p3 : Int64) (p4 : Int64) (p5 : Int64) (p6 : Int32) (res : Int32 × Int32 × (Nat → Int32) × (Nat → Int32)) (hf : f_X4_tryCounts G p1 p2 p3 p4 p5 p6 x_t_places x_t_beginnings x_t_allowed x_t_leastAllowed x_t_manyAllowed x_t_wish x_t_wishPlace x_t_soonestFirst x_t_ways x_t_leastRank x_t_tried x_t_kept x_t_counts = some res) : CtV l yX4_tryCounts cX4_tryCounts 11 (f0 + 1) (k0 + 39) E [.ref a_t, .int p1, .int p2, .long p3, .long p4, .long p5, .int p6] (wd_X4_tryCounts E a_t a_t_tried a_t_kept a_t_counts x_t_places x_t_beginnings x_t_allowed x_t_leastAllowed x_t_manyAllowed x_t_wish x_t_wishPlace x_t_soonestFirst x_t_ways x_t_leastRank x_t_tried x_t_kept x_t_counts) (wd_X4_tryCounts E a_t a_t_tried a_t_kept a_t_counts x_t_places x_t_beginnings x_t_allowed x_t_leastAllowed x_t_manyAllowed x_t_wish x_t_wishPlace x_t_soonestFirst res.1 res.2.1 res.2.2.1 res.2.2.2 x_t_counts) := by
  refine CtV.of RX4 (by decide) rfl (Nat.le_of_ble_eq_true rfl) ?_
  intro p e s m below meth c A Q ls X hA hP hD hl fin
  have hx := X.1
  have hb := X.2.1
  have hl : lv_has ls 11 [(0, .ref a_t), (1, .int p1), (2, .int p2), (3, .long p3), (5, .long p4), (7, .long p5), (9, .int p6)] := hl
  have fin' : ∀ (fr0 : Int32) (fr1 : Int32) (fr2 : (Nat → Int32)) (fr3 : (Nat → Int32)), some (fr0, fr1, fr2, fr3) = some res → ∀ (pc : Nat) (ls : Array Slot) (H : Heap) (locs : List Loc), decode cX4_tryCounts pc = .ok (.return_, 1) → va_P E.1 vwCl (wd_X4_tryCounts E a_t a_t_tried a_t_kept a_t_counts x_t_places x_t_beginnings x_t_allowed x_t_leastAllowed x_t_manyAllowed x_t_wish x_t_wishPlace x_t_soonestFirst fr0 fr1 fr2 fr3 x_t_counts) H → va_D A (wd_X4_tryCounts E a_t a_t_tried a_t_kept a_t_counts x_t_places x_t_beginnings x_t_allowed x_t_leastAllowed x_t_manyAllowed x_t_wish x_t_wishPlace x_t_soonestFirst fr0 fr1 fr2 fr3 x_t_counts) → va_S A s.heap H locs → W p l e (rmm (f0 + 1) (k0 + 39)) s m ([.ref a_t, .int p1, .int p2, .long p3, .long p4, .long p5, .int p6] : List Value).toArray below meth c H locs 0 0 Q (F0 m pc ls []) := by
    intro fr0 fr1 fr2 fr3 he
    cases he
    exact fin
  have L3 : ∀ (n3 : Nat) (v10 : Int32) (m_t_ways : Int32) (m_t_leastRank : Int32) (m_t_tried : Nat → Int32) (m_t_kept : Nat → Int32), f_X4_tryCounts_3 G p1 p2 p3 p4 p5 p6 x_t_places x_t_beginnings x_t_allowed x_t_leastAllowed x_t_manyAllowed x_t_wish x_t_wishPlace x_t_soonestFirst x_t_counts n3 v10 m_t_ways m_t_leastRank m_t_tried m_t_kept = some res → ∀ (H : Heap) (locs : List Loc) (ls : Array Slot), va_P E.1 vwCl (wd_X4_tryCounts E a_t a_t_tried a_t_kept a_t_counts x_t_places x_t_beginnings x_t_allowed x_t_leastAllowed x_t_manyAllowed x_t_wish x_t_wishPlace x_t_soonestFirst m_t_ways m_t_leastRank m_t_tried m_t_kept x_t_counts) H → va_D A (wd_X4_tryCounts E a_t a_t_tried a_t_kept a_t_counts x_t_places x_t_beginnings x_t_allowed x_t_leastAllowed x_t_manyAllowed x_t_wish x_t_wishPlace x_t_soonestFirst m_t_ways m_t_leastRank m_t_tried m_t_kept x_t_counts) → va_S A s.heap H locs → lv_has ls 11 [(0, .ref a_t), (1, .int p1), (2, .int p2), (3, .long p3), (5, .long p4), (7, .long p5), (9, .int p6), (10, .int v10)] → W p l e (rmm (f0 + 1) (k0 + 39)) s m ([.ref a_t, .int p1, .int p2, .long p3, .long p4, .long p5, .int p6] : List Value).toArray below meth c H locs 0 0 Q (F0 m 3 ls []) := by
    intro n3
    induction n3 with
    | zero => intro v10 m_t_ways m_t_leastRank m_t_tried m_t_kept hf; rw [f_X4_tryCounts_3] at hf; cases hf
    | succ n3 ih3 =>
      intro v10 m_t_ways m_t_leastRank m_t_tried m_t_kept hf H locs ls hP hD hS hl
      rw [f_X4_tryCounts_3] at hf
      refine lv_iload hx hb dX4_tryCounts_3 (lv_at hl 7 rfl) ?_
      refine lv_bipush (v := (10 : Int32)) hx hb dX4_tryCounts_5 (by decide) ?_
      refine lv_icmp_gt (tgt := 98) hx hb dX4_tryCounts_7 (by decide) (fun c_7 => ?_) (fun c_7 => ?_)
      · have hf := if_t c_7 hf
        exact fin' _ _ _ _ hf 98 ls H locs dX4_tryCounts_98 hP hD hS
      · have hf := if_f c_7 hf
        refine lv_aload_n hx hb dX4_tryCounts_10 rfl (lv_at hl 0 rfl) ?_
        refine gf_X4_39 X hP 0 rfl rfl dX4_tryCounts_11 ?_
        refine lv_iload hx hb dX4_tryCounts_14 (lv_at hl 7 rfl) ?_
        refine lv_ishr hx hb dX4_tryCounts_16 ?_
        refine lv_iconst (v := (1 : Int32)) hx hb dX4_tryCounts_17 (by decide) ?_
        refine lv_iand hx hb dX4_tryCounts_18 ?_
        refine lv_if_ne (tgt := 25) hx hb dX4_tryCounts_19 (by decide) (fun c_19 => ?_) (fun c_19 => ?_)
        · have hf := if_f c_19 hf
          refine lv_aload_n hx hb dX4_tryCounts_25 rfl (lv_at hl 0 rfl) ?_
          refine gf_X4_15 X hP 0 rfl rfl dX4_tryCounts_26 ?_
          refine lv_iload_n hx hb dX4_tryCounts_29 rfl (lv_at hl 2 rfl) ?_
          refine lv_iload hx hb dX4_tryCounts_30 (lv_at hl 7 rfl) ?_
          obtain ⟨hi32, hf⟩ := ck_some hf
          refine r_iast X hP hD hS 1 rfl hi32 (ws' := (wd_X4_tryCounts E a_t a_t_tried a_t_kept a_t_counts x_t_places x_t_beginnings x_t_allowed x_t_leastAllowed x_t_manyAllowed x_t_wish x_t_wishPlace x_t_soonestFirst m_t_ways m_t_leastRank (upd m_t_tried (ix p2) v10) m_t_kept x_t_counts)) rfl dX4_tryCounts_32 (fun H locs hP hD hS => ?_)
          refine lv_iload_n hx hb dX4_tryCounts_33 rfl (lv_at hl 1 rfl) ?_
          refine lv_iload hx hb dX4_tryCounts_34 (lv_at hl 7 rfl) ?_
          refine lv_iadd hx hb dX4_tryCounts_36 ?_
          refine lv_aload_n hx hb dX4_tryCounts_37 rfl (lv_at hl 0 rfl) ?_
          refine gf_X4_34 X hP 0 rfl rfl dX4_tryCounts_38 ?_
          refine lv_icmp_ge (tgt := 71) hx hb dX4_tryCounts_41 (by decide) (fun c_41 => ?_) (fun c_41 => ?_)
          · have hf := if_t c_41 hf
            refine lv_aload_n hx hb dX4_tryCounts_71 rfl (lv_at hl 0 rfl) ?_
            refine lv_iload_n hx hb dX4_tryCounts_72 rfl (lv_at hl 1 rfl) ?_
            refine lv_iconst (v := (1 : Int32)) hx hb dX4_tryCounts_73 (by decide) ?_
            refine lv_iadd hx hb dX4_tryCounts_74 ?_
            refine lv_iload_n hx hb dX4_tryCounts_75 rfl (lv_at hl 2 rfl) ?_
            refine lv_iconst (v := (1 : Int32)) hx hb dX4_tryCounts_76 (by decide) ?_
            refine lv_iadd hx hb dX4_tryCounts_77 ?_
            refine lv_lload_n hx hb dX4_tryCounts_78 rfl (lv_at hl 3 rfl) ?_
            refine lv_lload hx hb dX4_tryCounts_79 (lv_at hl 4 rfl) ?_
            refine lv_lconst (v := (1 : Int64)) hx hb dX4_tryCounts_81 (by decide) ?_
            refine lv_iload_n hx hb dX4_tryCounts_82 rfl (lv_at hl 1 rfl) ?_
            refine lv_lshl (v := (jlshl (1 : Int64) p1)) hx hb dX4_tryCounts_83 rfl ?_
            refine lv_lor hx hb dX4_tryCounts_84 ?_
            refine lv_lload hx hb dX4_tryCounts_85 (lv_at hl 5 rfl) ?_
            refine lv_iload hx hb dX4_tryCounts_87 (lv_at hl 6 rfl) ?_
            obtain ⟨r89, hc89, hf⟩ := bd_some hf
            refine cV_V X hA hP hD hS hl.1 (hG x_t_places x_t_beginnings x_t_allowed x_t_leastAllowed x_t_manyAllowed x_t_wish x_t_wishPlace x_t_soonestFirst m_t_ways m_t_leastRank (upd m_t_tried (ix p2) v10) m_t_kept x_t_counts (p1 + (1 : Int32)) (p2 + (1 : Int32)) p3 (p4 ||| (jlshl (1 : Int64) p1)) p5 p6 r89 hc89) 6 k_526 mw_X4_goOn hd_X4_goOn ⟨by show f0 + 1 ≤ (f0 + 1); omega, by show 8 + (20 + 11) + k0 ≤ (k0 + 39); omega⟩ [0, 1, 2, 3] [] [0, 1, 2, 3] rfl rfl (wr := []) rfl rfl rfl 4 0 rfl rfl rfl rfl rfl (Nat.le_of_ble_eq_true rfl) rfl (ws' := (wd_X4_tryCounts E a_t a_t_tried a_t_kept a_t_counts x_t_places x_t_beginnings x_t_allowed x_t_leastAllowed x_t_manyAllowed x_t_wish x_t_wishPlace x_t_soonestFirst r89.1 r89.2.1 r89.2.2.1 r89.2.2.2 x_t_counts)) rfl ⟨Nat.le_of_ble_eq_true rfl, Nat.le_of_ble_eq_true rfl⟩ dX4_tryCounts_89 (fun H locs hP hD hS => ?_)
            refine lv_iinc (v := (v10 + (1 : Int32))) (lv' := [(10, .int (v10 + (1 : Int32))), (0, .ref a_t), (1, .int p1), (2, .int p2), (3, .long p3), (5, .long p4), (7, .long p5), (9, .int p6)]) hx hb dX4_tryCounts_92 hl (k := 7) rfl rfl (by decide) rfl (fun ls hl => ?_)
            refine lv_goto (tgt := 3) hx hb dX4_tryCounts_95 (by decide) ?_
            exact ih3 (v10 + (1 : Int32)) r89.1 r89.2.1 r89.2.2.1 r89.2.2.2 hf H locs ls hP hD hS (lv_sub hl [1, 2, 3, 4, 5, 6, 7, 0] rfl)
          · have hf := if_f c_41 hf
            refine lv_aload_n hx hb dX4_tryCounts_44 rfl (lv_at hl 0 rfl) ?_
            refine lv_iload_n hx hb dX4_tryCounts_45 rfl (lv_at hl 1 rfl) ?_
            refine lv_iconst (v := (1 : Int32)) hx hb dX4_tryCounts_46 (by decide) ?_
            refine lv_iadd hx hb dX4_tryCounts_47 ?_
            refine lv_iload_n hx hb dX4_tryCounts_48 rfl (lv_at hl 2 rfl) ?_
            refine lv_iconst (v := (1 : Int32)) hx hb dX4_tryCounts_49 (by decide) ?_
            refine lv_iadd hx hb dX4_tryCounts_50 ?_
            refine lv_lload_n hx hb dX4_tryCounts_51 rfl (lv_at hl 3 rfl) ?_
            refine lv_lconst (v := (1 : Int64)) hx hb dX4_tryCounts_52 (by decide) ?_
            refine lv_iload_n hx hb dX4_tryCounts_53 rfl (lv_at hl 1 rfl) ?_
            refine lv_iload hx hb dX4_tryCounts_54 (lv_at hl 7 rfl) ?_
            refine lv_iadd hx hb dX4_tryCounts_56 ?_
            refine lv_lshl (v := (jlshl (1 : Int64) (p1 + v10))) hx hb dX4_tryCounts_57 rfl ?_
            refine lv_lor hx hb dX4_tryCounts_58 ?_
            refine lv_lload hx hb dX4_tryCounts_59 (lv_at hl 4 rfl) ?_
            refine lv_lload hx hb dX4_tryCounts_61 (lv_at hl 5 rfl) ?_
            refine lv_iload hx hb dX4_tryCounts_63 (lv_at hl 6 rfl) ?_
            obtain ⟨r65, hc65, hf⟩ := bd_some hf
            refine cV_V X hA hP hD hS hl.1 (hG x_t_places x_t_beginnings x_t_allowed x_t_leastAllowed x_t_manyAllowed x_t_wish x_t_wishPlace x_t_soonestFirst m_t_ways m_t_leastRank (upd m_t_tried (ix p2) v10) m_t_kept x_t_counts (p1 + (1 : Int32)) (p2 + (1 : Int32)) (p3 ||| (jlshl (1 : Int64) (p1 + v10))) p4 p5 p6 r65 hc65) 6 k_526 mw_X4_goOn hd_X4_goOn ⟨by show f0 + 1 ≤ (f0 + 1); omega, by show 8 + (20 + 11) + k0 ≤ (k0 + 39); omega⟩ [0, 1, 2, 3] [] [0, 1, 2, 3] rfl rfl (wr := []) rfl rfl rfl 4 0 rfl rfl rfl rfl rfl (Nat.le_of_ble_eq_true rfl) rfl (ws' := (wd_X4_tryCounts E a_t a_t_tried a_t_kept a_t_counts x_t_places x_t_beginnings x_t_allowed x_t_leastAllowed x_t_manyAllowed x_t_wish x_t_wishPlace x_t_soonestFirst r65.1 r65.2.1 r65.2.2.1 r65.2.2.2 x_t_counts)) rfl ⟨Nat.le_of_ble_eq_true rfl, Nat.le_of_ble_eq_true rfl⟩ dX4_tryCounts_65 (fun H locs hP hD hS => ?_)
            refine lv_goto (tgt := 92) hx hb dX4_tryCounts_68 (by decide) ?_
            refine lv_iinc (v := (v10 + (1 : Int32))) (lv' := [(10, .int (v10 + (1 : Int32))), (0, .ref a_t), (1, .int p1), (2, .int p2), (3, .long p3), (5, .long p4), (7, .long p5), (9, .int p6)]) hx hb dX4_tryCounts_92 hl (k := 7) rfl rfl (by decide) rfl (fun ls hl => ?_)
            refine lv_goto (tgt := 3) hx hb dX4_tryCounts_95 (by decide) ?_
            exact ih3 (v10 + (1 : Int32)) r65.1 r65.2.1 r65.2.2.1 r65.2.2.2 hf H locs ls hP hD hS (lv_sub hl [1, 2, 3, 4, 5, 6, 7, 0] rfl)
        · have hf := if_t c_19 hf
          refine lv_goto (tgt := 92) hx hb dX4_tryCounts_22 (by decide) ?_
          refine lv_iinc (v := (v10 + (1 : Int32))) (lv' := [(10, .int (v10 + (1 : Int32))), (0, .ref a_t), (1, .int p1), (2, .int p2), (3, .long p3), (5, .long p4), (7, .long p5), (9, .int p6)]) hx hb dX4_tryCounts_92 hl (k := 7) rfl rfl (by decide) rfl (fun ls hl => ?_)
          refine lv_goto (tgt := 3) hx hb dX4_tryCounts_95 (by decide) ?_
          exact ih3 (v10 + (1 : Int32)) m_t_ways m_t_leastRank m_t_tried m_t_kept hf H locs ls hP hD hS (lv_sub hl [1, 2, 3, 4, 5, 6, 7, 0] rfl)
  have hS : va_S A s.heap s.heap [] := va_S.rf
  obtain ⟨H, hH9⟩ : ∃ z, z = s.heap := ⟨_, rfl⟩
  obtain ⟨locs, hL9⟩ : ∃ z : List Loc, z = [] := ⟨_, rfl⟩
  rw [← hL9]
  rw [← hL9] at hS
  have hP : va_P E.1 vwCl (wd_X4_tryCounts E a_t a_t_tried a_t_kept a_t_counts x_t_places x_t_beginnings x_t_allowed x_t_leastAllowed x_t_manyAllowed x_t_wish x_t_wishPlace x_t_soonestFirst x_t_ways x_t_leastRank x_t_tried x_t_kept x_t_counts) H := by rw [hH9]; exact hP
  have hS : va_S A s.heap H locs := by rw [hH9]; exact hS
  suffices hgoal : W p l e (rmm (f0 + 1) (k0 + 39)) s m ([.ref a_t, .int p1, .int p2, .long p3, .long p4, .long p5, .int p6] : List Value).toArray below meth c H locs 0 0 Q (F0 m 0 ls []) by rw [hH9] at hgoal; exact hgoal
  rw [f_X4_tryCounts] at hf
  refine lv_iconst (v := (1 : Int32)) hx hb dX4_tryCounts_0 (by decide) ?_
  refine lv_istore (lv' := [(10, .int (1 : Int32)), (0, .ref a_t), (1, .int p1), (2, .int p2), (3, .long p3), (5, .long p4), (7, .long p5), (9, .int p6)]) hx hb dX4_tryCounts_1 hl (by decide) rfl (fun ls hl => ?_)
  exact L3 FU (1 : Int32) x_t_ways x_t_leastRank x_t_tried x_t_kept hf H locs ls hP hD hS (lv_sub hl [1, 2, 3, 4, 5, 6, 7, 0] rfl)
def f_X4_goOn_122 (G : Int32 → Int32 → Int64 → Int64 → Int64 → Int32 → Int32 → Int32 → Int32 → Int32 → Int32 → Int32 → Int32 → Int32 → Int32 → Int32 → (Nat → Int32) → (Nat → Int32) → (Nat → Int32) → Option (Int32 × Int32 × (Nat → Int32) × (Nat → Int32))) (x_t_places : Int32) (x_t_beginnings : Int32) (x_t_allowed : Int32) (x_t_leastAllowed : Int32) (x_t_manyAllowed : Int32) (x_t_wish : Int32) (x_t_wishPlace : Int32) (x_t_soonestFirst : Int32) (x_t_counts : Nat → Int32) (K_21 : Int32 → Int32 → Int64 → Int64 → Int64 → Int32 → Int32 → Int32 → (Nat → Int32) → (Nat → Int32) → Option (Int32 × Int32 × (Nat → Int32) × (Nat → Int32))) (v10 : Int32) (v11 : Int32) (v12 : Int64) (v14 : Int64) (v16 : Int64) (v18 : Int32) (v19 : Int32) (m_t_ways : Int32) (m_t_leastRank : Int32) (m_t_tried : Nat → Int32) (m_t_kept : Nat → Int32) : Option (Int32 × Int32 × (Nat → Int32) × (Nat → Int32)) :=
  if v19 = 0 then
    ck (inB v18 40) (
    if x_t_places ≤ (v18 + (x_t_counts (ix v18))) then
      K_21 v10 v11 v12 (v14 ||| (jlshl (1 : Int64) v18)) v16 (v18 + (1 : Int32)) m_t_ways m_t_leastRank m_t_tried m_t_kept
    else
      K_21 v10 v11 (v12 ||| (jlshl (1 : Int64) (v18 + (x_t_counts (ix v18))))) v14 v16 (v18 + (1 : Int32)) m_t_ways m_t_leastRank m_t_tried m_t_kept)
  else
    Option.bind (f_X4_tryCounts G v18 v10 v12 v14 v16 v11 x_t_places x_t_beginnings x_t_allowed x_t_leastAllowed x_t_manyAllowed x_t_wish x_t_wishPlace x_t_soonestFirst m_t_ways m_t_leastRank m_t_tried m_t_kept x_t_counts) (fun r140 =>
    some (r140.1, r140.2.1, r140.2.2.1, r140.2.2.2))
def f_X4_goOn_51 (G : Int32 → Int32 → Int64 → Int64 → Int64 → Int32 → Int32 → Int32 → Int32 → Int32 → Int32 → Int32 → Int32 → Int32 → Int32 → Int32 → (Nat → Int32) → (Nat → Int32) → (Nat → Int32) → Option (Int32 × Int32 × (Nat → Int32) × (Nat → Int32))) (x_t_places : Int32) (x_t_beginnings : Int32) (x_t_allowed : Int32) (x_t_leastAllowed : Int32) (x_t_manyAllowed : Int32) (x_t_wish : Int32) (x_t_wishPlace : Int32) (x_t_soonestFirst : Int32) (x_t_counts : Nat → Int32) (K_21 : Int32 → Int32 → Int64 → Int64 → Int64 → Int32 → Int32 → Int32 → (Nat → Int32) → (Nat → Int32) → Option (Int32 × Int32 × (Nat → Int32) × (Nat → Int32))) (v10 : Int32) (v11 : Int32) (v12 : Int64) (v14 : Int64) (v16 : Int64) (v18 : Int32) (s0 : Int32) (m_t_ways : Int32) (m_t_leastRank : Int32) (m_t_tried : Nat → Int32) (m_t_kept : Nat → Int32) : Option (Int32 × Int32 × (Nat → Int32) × (Nat → Int32)) :=
  if (lg_cmp ((jlushr v12 v18) &&& (1 : Int64)) (0 : Int64)) = 0 then
    if s0 = 0 then
      K_21 v10 v11 v12 v14 v16 (v18 + (1 : Int32)) m_t_ways m_t_leastRank m_t_tried m_t_kept
    else
      ck (inB v10 4) (
      K_21 (v10 + (1 : Int32)) (v11 * x_t_manyAllowed) v12 v14 v16 (v18 + (1 : Int32)) m_t_ways m_t_leastRank (upd m_t_tried (ix v10) x_t_leastAllowed) m_t_kept)
  else
    if (lg_cmp v14 (0 : Int64)) = 0 then
      if (lg_cmp (jlushr v12 v18) (1 : Int64)) = 0 then
        f_X4_goOn_122 G x_t_places x_t_beginnings x_t_allowed x_t_leastAllowed x_t_manyAllowed x_t_wish x_t_wishPlace x_t_soonestFirst x_t_counts K_21 v10 v11 v12 v14 (v16 ||| (jlshl (1 : Int64) v18)) v18 s0 m_t_ways m_t_leastRank m_t_tried m_t_kept
      else
        f_X4_goOn_122 G x_t_places x_t_beginnings x_t_allowed x_t_leastAllowed x_t_manyAllowed x_t_wish x_t_wishPlace x_t_soonestFirst x_t_counts K_21 v10 v11 v12 v14 v16 v18 s0 m_t_ways m_t_leastRank m_t_tried m_t_kept
    else
      f_X4_goOn_122 G x_t_places x_t_beginnings x_t_allowed x_t_leastAllowed x_t_manyAllowed x_t_wish x_t_wishPlace x_t_soonestFirst x_t_counts K_21 v10 v11 v12 v14 v16 v18 s0 m_t_ways m_t_leastRank m_t_tried m_t_kept
def f_X4_goOn_21 (G : Int32 → Int32 → Int64 → Int64 → Int64 → Int32 → Int32 → Int32 → Int32 → Int32 → Int32 → Int32 → Int32 → Int32 → Int32 → Int32 → (Nat → Int32) → (Nat → Int32) → (Nat → Int32) → Option (Int32 × Int32 × (Nat → Int32) × (Nat → Int32))) (x_t_places : Int32) (x_t_beginnings : Int32) (x_t_allowed : Int32) (x_t_leastAllowed : Int32) (x_t_manyAllowed : Int32) (x_t_wish : Int32) (x_t_wishPlace : Int32) (x_t_soonestFirst : Int32) (x_t_counts : Nat → Int32)  : Nat → Int32 → Int32 → Int64 → Int64 → Int64 → Int32 → Int32 → Int32 → (Nat → Int32) → (Nat → Int32) → Option (Int32 × Int32 × (Nat → Int32) × (Nat → Int32))
  | 0, _, _, _, _, _, _, _, _, _, _ => none
  | n_ + 1, v10, v11, v12, v14, v16, v18, m_t_ways, m_t_leastRank, m_t_tried, m_t_kept =>
    if x_t_places ≤ v18 then
      Option.bind (f_X4_weigh v14 v16 v11 x_t_beginnings x_t_wish x_t_wishPlace x_t_soonestFirst m_t_ways m_t_leastRank m_t_tried m_t_kept) (fun r203 =>
      some (r203.1, r203.2.1, m_t_tried, r203.2.2))
    else
      ck (inB v18 40) (
      if (x_t_counts (ix v18)) = 0 then
        if (4 : Int32) ≤ v10 then
          f_X4_goOn_51 G x_t_places x_t_beginnings x_t_allowed x_t_leastAllowed x_t_manyAllowed x_t_wish x_t_wishPlace x_t_soonestFirst x_t_counts (f_X4_goOn_21 G x_t_places x_t_beginnings x_t_allowed x_t_leastAllowed x_t_manyAllowed x_t_wish x_t_wishPlace x_t_soonestFirst x_t_counts n_) v10 v11 v12 v14 v16 v18 (0 : Int32) m_t_ways m_t_leastRank m_t_tried m_t_kept
        else
          f_X4_goOn_51 G x_t_places x_t_beginnings x_t_allowed x_t_leastAllowed x_t_manyAllowed x_t_wish x_t_wishPlace x_t_soonestFirst x_t_counts (f_X4_goOn_21 G x_t_places x_t_beginnings x_t_allowed x_t_leastAllowed x_t_manyAllowed x_t_wish x_t_wishPlace x_t_soonestFirst x_t_counts n_) v10 v11 v12 v14 v16 v18 (1 : Int32) m_t_ways m_t_leastRank m_t_tried m_t_kept
      else
        f_X4_goOn_51 G x_t_places x_t_beginnings x_t_allowed x_t_leastAllowed x_t_manyAllowed x_t_wish x_t_wishPlace x_t_soonestFirst x_t_counts (f_X4_goOn_21 G x_t_places x_t_beginnings x_t_allowed x_t_leastAllowed x_t_manyAllowed x_t_wish x_t_wishPlace x_t_soonestFirst x_t_counts n_) v10 v11 v12 v14 v16 v18 (0 : Int32) m_t_ways m_t_leastRank m_t_tried m_t_kept)
def f_X4_goOn_b (G : Int32 → Int32 → Int64 → Int64 → Int64 → Int32 → Int32 → Int32 → Int32 → Int32 → Int32 → Int32 → Int32 → Int32 → Int32 → Int32 → (Nat → Int32) → (Nat → Int32) → (Nat → Int32) → Option (Int32 × Int32 × (Nat → Int32) × (Nat → Int32))) (p1 : Int32) (p2 : Int32) (p3 : Int64) (p4 : Int64) (p5 : Int64) (p6 : Int32) (x_t_places : Int32) (x_t_beginnings : Int32) (x_t_allowed : Int32) (x_t_leastAllowed : Int32) (x_t_manyAllowed : Int32) (x_t_wish : Int32) (x_t_wishPlace : Int32) (x_t_soonestFirst : Int32) (x_t_ways : Int32) (x_t_leastRank : Int32) (x_t_tried : Nat → Int32) (x_t_kept : Nat → Int32) (x_t_counts : Nat → Int32) : Option (Int32 × Int32 × (Nat → Int32) × (Nat → Int32)) :=
  f_X4_goOn_21 G x_t_places x_t_beginnings x_t_allowed x_t_leastAllowed x_t_manyAllowed x_t_wish x_t_wishPlace x_t_soonestFirst x_t_counts FU p2 p6 p3 p4 p5 p1 x_t_ways x_t_leastRank x_t_tried x_t_kept
set_option maxHeartbeats 4000000 in
set_option maxRecDepth 100000 in
theorem c_X4_goOn_b (l : Launch) (E : EN) (a_t a_t_tried a_t_kept a_t_counts : Nat) (G : Int32 → Int32 → Int64 → Int64 → Int64 → Int32 → Int32 → Int32 → Int32 → Int32 → Int32 → Int32 → Int32 → Int32 → Int32 → Int32 → (Nat → Int32) → (Nat → Int32) → (Nat → Int32) → Option (Int32 × Int32 × (Nat → Int32) × (Nat → Int32))) (f0 k0 : Nat) (hG : ∀ (x_t_places : Int32) (x_t_beginnings : Int32) (x_t_allowed : Int32) (x_t_leastAllowed : Int32) (x_t_manyAllowed : Int32) (x_t_wish : Int32) (x_t_wishPlace : Int32) (x_t_soonestFirst : Int32) (x_t_ways : Int32) (x_t_leastRank : Int32) (x_t_tried : Nat → Int32) (x_t_kept : Nat → Int32) (x_t_counts : Nat → Int32) (p1 : Int32) (p2 : Int32) (p3 : Int64) (p4 : Int64) (p5 : Int64) (p6 : Int32) (res : Int32 × Int32 × (Nat → Int32) × (Nat → Int32)), G p1 p2 p3 p4 p5 p6 x_t_places x_t_beginnings x_t_allowed x_t_leastAllowed x_t_manyAllowed x_t_wish x_t_wishPlace x_t_soonestFirst x_t_ways x_t_leastRank x_t_tried x_t_kept x_t_counts = some res → CtV l yX4_goOn cX4_goOn 20 f0 k0 E [.ref a_t, .int p1, .int p2, .long p3, .long p4, .long p5, .int p6] (wd_X4_goOn E a_t a_t_tried a_t_kept a_t_counts x_t_places x_t_beginnings x_t_allowed x_t_leastAllowed x_t_manyAllowed x_t_wish x_t_wishPlace x_t_soonestFirst x_t_ways x_t_leastRank x_t_tried x_t_kept x_t_counts) (wd_X4_goOn E a_t a_t_tried a_t_kept a_t_counts x_t_places x_t_beginnings x_t_allowed x_t_leastAllowed x_t_manyAllowed x_t_wish x_t_wishPlace x_t_soonestFirst res.1 res.2.1 res.2.2.1 res.2.2.2 x_t_counts)) (x_t_places : Int32) (x_t_beginnings : Int32) (x_t_allowed : Int32) (x_t_leastAllowed : Int32) (x_t_manyAllowed : Int32) (x_t_wish : Int32) (x_t_wishPlace : Int32) (x_t_soonestFirst : Int32) (x_t_ways : Int32) (x_t_leastRank : Int32) (x_t_tried : Nat → Int32) (x_t_kept : Nat → Int32) (x_t_counts : Nat → Int32) (p1 : Int32) (p2 : Int32) (p3 : Int64) (p4 : Int64) (p5 : Int64) (p6 : Int32) (res : Int32 × Int32 × (Nat → Int32) × (Nat → Int32)) (hf : f_X4_goOn_b G p1 p2 p3 p4 p5 p6 x_t_places x_t_beginnings x_t_allowed x_t_leastAllowed x_t_manyAllowed x_t_wish x_t_wishPlace x_t_soonestFirst x_t_ways x_t_leastRank x_t_tried x_t_kept x_t_counts = some res) : CtV l yX4_goOn cX4_goOn 20 (f0 + 6) (k0 + 200) E [.ref a_t, .int p1, .int p2, .long p3, .long p4, .long p5, .int p6] (wd_X4_goOn E a_t a_t_tried a_t_kept a_t_counts x_t_places x_t_beginnings x_t_allowed x_t_leastAllowed x_t_manyAllowed x_t_wish x_t_wishPlace x_t_soonestFirst x_t_ways x_t_leastRank x_t_tried x_t_kept x_t_counts) (wd_X4_goOn E a_t a_t_tried a_t_kept a_t_counts x_t_places x_t_beginnings x_t_allowed x_t_leastAllowed x_t_manyAllowed x_t_wish x_t_wishPlace x_t_soonestFirst res.1 res.2.1 res.2.2.1 res.2.2.2 x_t_counts) := by
  refine CtV.of RX4 (by decide) rfl (Nat.le_of_ble_eq_true rfl) ?_
  intro p e s m below meth c A Q ls X hA hP hD hl fin
  have hx := X.1
  have hb := X.2.1
  have hl : lv_has ls 20 [(0, .ref a_t), (1, .int p1), (2, .int p2), (3, .long p3), (5, .long p4), (7, .long p5), (9, .int p6)] := hl
  have fin' : ∀ (fr0 : Int32) (fr1 : Int32) (fr2 : (Nat → Int32)) (fr3 : (Nat → Int32)), some (fr0, fr1, fr2, fr3) = some res → ∀ (pc : Nat) (ls : Array Slot) (H : Heap) (locs : List Loc), decode cX4_goOn pc = .ok (.return_, 1) → va_P E.1 vwCl (wd_X4_goOn E a_t a_t_tried a_t_kept a_t_counts x_t_places x_t_beginnings x_t_allowed x_t_leastAllowed x_t_manyAllowed x_t_wish x_t_wishPlace x_t_soonestFirst fr0 fr1 fr2 fr3 x_t_counts) H → va_D A (wd_X4_goOn E a_t a_t_tried a_t_kept a_t_counts x_t_places x_t_beginnings x_t_allowed x_t_leastAllowed x_t_manyAllowed x_t_wish x_t_wishPlace x_t_soonestFirst fr0 fr1 fr2 fr3 x_t_counts) → va_S A s.heap H locs → W p l e (rmm (f0 + 6) (k0 + 200)) s m ([.ref a_t, .int p1, .int p2, .long p3, .long p4, .long p5, .int p6] : List Value).toArray below meth c H locs 0 0 Q (F0 m pc ls []) := by
    intro fr0 fr1 fr2 fr3 he
    cases he
    exact fin
  have L21 : ∀ (n21 : Nat) (v10 : Int32) (v11 : Int32) (v12 : Int64) (v14 : Int64) (v16 : Int64) (v18 : Int32) (m_t_ways : Int32) (m_t_leastRank : Int32) (m_t_tried : Nat → Int32) (m_t_kept : Nat → Int32), f_X4_goOn_21 G x_t_places x_t_beginnings x_t_allowed x_t_leastAllowed x_t_manyAllowed x_t_wish x_t_wishPlace x_t_soonestFirst x_t_counts n21 v10 v11 v12 v14 v16 v18 m_t_ways m_t_leastRank m_t_tried m_t_kept = some res → ∀ (H : Heap) (locs : List Loc) (ls : Array Slot), va_P E.1 vwCl (wd_X4_goOn E a_t a_t_tried a_t_kept a_t_counts x_t_places x_t_beginnings x_t_allowed x_t_leastAllowed x_t_manyAllowed x_t_wish x_t_wishPlace x_t_soonestFirst m_t_ways m_t_leastRank m_t_tried m_t_kept x_t_counts) H → va_D A (wd_X4_goOn E a_t a_t_tried a_t_kept a_t_counts x_t_places x_t_beginnings x_t_allowed x_t_leastAllowed x_t_manyAllowed x_t_wish x_t_wishPlace x_t_soonestFirst m_t_ways m_t_leastRank m_t_tried m_t_kept x_t_counts) → va_S A s.heap H locs → lv_has ls 20 [(0, .ref a_t), (10, .int v10), (11, .int v11), (12, .long v12), (14, .long v14), (16, .long v16), (18, .int v18)] → W p l e (rmm (f0 + 6) (k0 + 200)) s m ([.ref a_t, .int p1, .int p2, .long p3, .long p4, .long p5, .int p6] : List Value).toArray below meth c H locs 0 0 Q (F0 m 21 ls []) := by
    intro n21
    induction n21 with
    | zero => intro v10 v11 v12 v14 v16 v18 m_t_ways m_t_leastRank m_t_tried m_t_kept hf; rw [f_X4_goOn_21] at hf; cases hf
    | succ n21 ih21 =>
      have L122 : ∀ (v10 : Int32) (v11 : Int32) (v12 : Int64) (v14 : Int64) (v16 : Int64) (v18 : Int32) (v19 : Int32) (m_t_ways : Int32) (m_t_leastRank : Int32) (m_t_tried : Nat → Int32) (m_t_kept : Nat → Int32), f_X4_goOn_122 G x_t_places x_t_beginnings x_t_allowed x_t_leastAllowed x_t_manyAllowed x_t_wish x_t_wishPlace x_t_soonestFirst x_t_counts (f_X4_goOn_21 G x_t_places x_t_beginnings x_t_allowed x_t_leastAllowed x_t_manyAllowed x_t_wish x_t_wishPlace x_t_soonestFirst x_t_counts n21) v10 v11 v12 v14 v16 v18 v19 m_t_ways m_t_leastRank m_t_tried m_t_kept = some res → ∀ (H : Heap) (locs : List Loc) (ls : Array Slot), va_P E.1 vwCl (wd_X4_goOn E a_t a_t_tried a_t_kept a_t_counts x_t_places x_t_beginnings x_t_allowed x_t_leastAllowed x_t_manyAllowed x_t_wish x_t_wishPlace x_t_soonestFirst m_t_ways m_t_leastRank m_t_tried m_t_kept x_t_counts) H → va_D A (wd_X4_goOn E a_t a_t_tried a_t_kept a_t_counts x_t_places x_t_beginnings x_t_allowed x_t_leastAllowed x_t_manyAllowed x_t_wish x_t_wishPlace x_t_soonestFirst m_t_ways m_t_leastRank m_t_tried m_t_kept x_t_counts) → va_S A s.heap H locs → lv_has ls 20 [(0, .ref a_t), (10, .int v10), (11, .int v11), (12, .long v12), (14, .long v14), (16, .long v16), (18, .int v18), (19, .int v19)] → W p l e (rmm (f0 + 6) (k0 + 200)) s m ([.ref a_t, .int p1, .int p2, .long p3, .long p4, .long p5, .int p6] : List Value).toArray below meth c H locs 0 0 Q (F0 m 122 ls []) := by
        intro v10 v11 v12 v14 v16 v18 v19 m_t_ways m_t_leastRank m_t_tried m_t_kept hf H locs ls hP hD hS hl
        rw [f_X4_goOn_122] at hf
        refine lv_iload hx hb dX4_goOn_122 (lv_at hl 7 rfl) ?_
        refine lv_if_eq (tgt := 144) hx hb dX4_goOn_124 (by decide) (fun c_124 => ?_) (fun c_124 => ?_)
        · have hf := if_t c_124 hf
          refine lv_iload hx hb dX4_goOn_144 (lv_at hl 6 rfl) ?_
          refine lv_aload_n hx hb dX4_goOn_146 rfl (lv_at hl 0 rfl) ?_
          refine gf_X4_18 X hP 0 rfl rfl dX4_goOn_147 ?_
          refine lv_iload hx hb dX4_goOn_150 (lv_at hl 6 rfl) ?_
          obtain ⟨hi152, hf⟩ := ck_some hf
          refine r_iald X hP 3 rfl hi152 dX4_goOn_152 ?_
          refine lv_iadd hx hb dX4_goOn_153 ?_
          refine lv_aload_n hx hb dX4_goOn_154 rfl (lv_at hl 0 rfl) ?_
          refine gf_X4_34 X hP 0 rfl rfl dX4_goOn_155 ?_
          refine lv_icmp_ge (tgt := 181) hx hb dX4_goOn_158 (by decide) (fun c_158 => ?_) (fun c_158 => ?_)
          · have hf := if_t c_158 hf
            refine lv_lload hx hb dX4_goOn_181 (lv_at hl 4 rfl) ?_
            refine lv_lconst (v := (1 : Int64)) hx hb dX4_goOn_183 (by decide) ?_
            refine lv_iload hx hb dX4_goOn_184 (lv_at hl 6 rfl) ?_
            refine lv_lshl (v := (jlshl (1 : Int64) v18)) hx hb dX4_goOn_186 rfl ?_
            refine lv_lor hx hb dX4_goOn_187 ?_
            refine lv_lstore (lv' := [(14, .long (v14 ||| (jlshl (1 : Int64) v18))), (0, .ref a_t), (10, .int v10), (11, .int v11), (12, .long v12), (16, .long v16), (18, .int v18), (19, .int v19)]) hx hb dX4_goOn_188 hl (by decide) rfl (fun ls hl => ?_)
            refine lv_iinc (v := (v18 + (1 : Int32))) (lv' := [(18, .int (v18 + (1 : Int32))), (14, .long (v14 ||| (jlshl (1 : Int64) v18))), (0, .ref a_t), (10, .int v10), (11, .int v11), (12, .long v12), (16, .long v16), (19, .int v19)]) hx hb dX4_goOn_190 hl (k := 6) rfl rfl (by decide) rfl (fun ls hl => ?_)
            refine lv_goto (tgt := 21) hx hb dX4_goOn_193 (by decide) ?_
            exact ih21 v10 v11 v12 (v14 ||| (jlshl (1 : Int64) v18)) v16 (v18 + (1 : Int32)) m_t_ways m_t_leastRank m_t_tried m_t_kept hf H locs ls hP hD hS (lv_sub hl [2, 3, 4, 5, 1, 6, 0] rfl)
          · have hf := if_f c_158 hf
            refine lv_lload hx hb dX4_goOn_161 (lv_at hl 3 rfl) ?_
            refine lv_lconst (v := (1 : Int64)) hx hb dX4_goOn_163 (by decide) ?_
            refine lv_iload hx hb dX4_goOn_164 (lv_at hl 6 rfl) ?_
            refine lv_aload_n hx hb dX4_goOn_166 rfl (lv_at hl 0 rfl) ?_
            refine gf_X4_18 X hP 0 rfl rfl dX4_goOn_167 ?_
            refine lv_iload hx hb dX4_goOn_170 (lv_at hl 6 rfl) ?_
            refine r_iald X hP 3 rfl hi152 dX4_goOn_172 ?_
            refine lv_iadd hx hb dX4_goOn_173 ?_
            refine lv_lshl (v := (jlshl (1 : Int64) (v18 + (x_t_counts (ix v18))))) hx hb dX4_goOn_174 rfl ?_
            refine lv_lor hx hb dX4_goOn_175 ?_
            refine lv_lstore (lv' := [(12, .long (v12 ||| (jlshl (1 : Int64) (v18 + (x_t_counts (ix v18)))))), (0, .ref a_t), (10, .int v10), (11, .int v11), (14, .long v14), (16, .long v16), (18, .int v18), (19, .int v19)]) hx hb dX4_goOn_176 hl (by decide) rfl (fun ls hl => ?_)
            refine lv_goto (tgt := 190) hx hb dX4_goOn_178 (by decide) ?_
            refine lv_iinc (v := (v18 + (1 : Int32))) (lv' := [(18, .int (v18 + (1 : Int32))), (12, .long (v12 ||| (jlshl (1 : Int64) (v18 + (x_t_counts (ix v18)))))), (0, .ref a_t), (10, .int v10), (11, .int v11), (14, .long v14), (16, .long v16), (19, .int v19)]) hx hb dX4_goOn_190 hl (k := 6) rfl rfl (by decide) rfl (fun ls hl => ?_)
            refine lv_goto (tgt := 21) hx hb dX4_goOn_193 (by decide) ?_
            exact ih21 v10 v11 (v12 ||| (jlshl (1 : Int64) (v18 + (x_t_counts (ix v18))))) v14 v16 (v18 + (1 : Int32)) m_t_ways m_t_leastRank m_t_tried m_t_kept hf H locs ls hP hD hS (lv_sub hl [2, 3, 4, 1, 5, 6, 0] rfl)
        · have hf := if_f c_124 hf
          refine lv_aload_n hx hb dX4_goOn_127 rfl (lv_at hl 0 rfl) ?_
          refine lv_iload hx hb dX4_goOn_128 (lv_at hl 6 rfl) ?_
          refine lv_iload hx hb dX4_goOn_130 (lv_at hl 1 rfl) ?_
          refine lv_lload hx hb dX4_goOn_132 (lv_at hl 3 rfl) ?_
          refine lv_lload hx hb dX4_goOn_134 (lv_at hl 4 rfl) ?_
          refine lv_lload hx hb dX4_goOn_136 (lv_at hl 5 rfl) ?_
          refine lv_iload hx hb dX4_goOn_138 (lv_at hl 2 rfl) ?_
          obtain ⟨r140, hc140, hf⟩ := bd_some hf
          refine cV_V X hA hP hD hS hl.1 (c_X4_tryCounts l E a_t a_t_tried a_t_kept a_t_counts G f0 k0 hG x_t_places x_t_beginnings x_t_allowed x_t_leastAllowed x_t_manyAllowed x_t_wish x_t_wishPlace x_t_soonestFirst m_t_ways m_t_leastRank m_t_tried m_t_kept x_t_counts v18 v10 v12 v14 v16 v11 r140 hc140) 6 k_530 mw_X4_tryCounts hd_X4_tryCounts ⟨by show (f0 + 1) + 1 ≤ (f0 + 6); omega, by show 8 + (11 + 11) + (k0 + 39) ≤ (k0 + 200); omega⟩ [0, 1, 2, 3] [] [0, 1, 2, 3] rfl rfl (wr := []) rfl rfl rfl 4 0 rfl rfl rfl rfl rfl (Nat.le_of_ble_eq_true rfl) rfl (ws' := (wd_X4_goOn E a_t a_t_tried a_t_kept a_t_counts x_t_places x_t_beginnings x_t_allowed x_t_leastAllowed x_t_manyAllowed x_t_wish x_t_wishPlace x_t_soonestFirst r140.1 r140.2.1 r140.2.2.1 r140.2.2.2 x_t_counts)) rfl ⟨Nat.le_of_ble_eq_true rfl, Nat.le_of_ble_eq_true rfl⟩ dX4_goOn_140 (fun H locs hP hD hS => ?_)
          exact fin' _ _ _ _ hf 143 ls H locs dX4_goOn_143 hP hD hS
      have L51 : ∀ (v10 : Int32) (v11 : Int32) (v12 : Int64) (v14 : Int64) (v16 : Int64) (v18 : Int32) (s0 : Int32) (m_t_ways : Int32) (m_t_leastRank : Int32) (m_t_tried : Nat → Int32) (m_t_kept : Nat → Int32), f_X4_goOn_51 G x_t_places x_t_beginnings x_t_allowed x_t_leastAllowed x_t_manyAllowed x_t_wish x_t_wishPlace x_t_soonestFirst x_t_counts (f_X4_goOn_21 G x_t_places x_t_beginnings x_t_allowed x_t_leastAllowed x_t_manyAllowed x_t_wish x_t_wishPlace x_t_soonestFirst x_t_counts n21) v10 v11 v12 v14 v16 v18 s0 m_t_ways m_t_leastRank m_t_tried m_t_kept = some res → ∀ (H : Heap) (locs : List Loc) (ls : Array Slot), va_P E.1 vwCl (wd_X4_goOn E a_t a_t_tried a_t_kept a_t_counts x_t_places x_t_beginnings x_t_allowed x_t_leastAllowed x_t_manyAllowed x_t_wish x_t_wishPlace x_t_soonestFirst m_t_ways m_t_leastRank m_t_tried m_t_kept x_t_counts) H → va_D A (wd_X4_goOn E a_t a_t_tried a_t_kept a_t_counts x_t_places x_t_beginnings x_t_allowed x_t_leastAllowed x_t_manyAllowed x_t_wish x_t_wishPlace x_t_soonestFirst m_t_ways m_t_leastRank m_t_tried m_t_kept x_t_counts) → va_S A s.heap H locs → lv_has ls 20 [(0, .ref a_t), (10, .int v10), (11, .int v11), (12, .long v12), (14, .long v14), (16, .long v16), (18, .int v18)] → W p l e (rmm (f0 + 6) (k0 + 200)) s m ([.ref a_t, .int p1, .int p2, .long p3, .long p4, .long p5, .int p6] : List Value).toArray below meth c H locs 0 0 Q (F0 m 51 ls [.int s0]) := by
        intro v10 v11 v12 v14 v16 v18 s0 m_t_ways m_t_leastRank m_t_tried m_t_kept hf H locs ls hP hD hS hl
        rw [f_X4_goOn_51] at hf
        refine lv_istore (lv' := [(19, .int s0), (0, .ref a_t), (10, .int v10), (11, .int v11), (12, .long v12), (14, .long v14), (16, .long v16), (18, .int v18)]) hx hb dX4_goOn_51 hl (by decide) rfl (fun ls hl => ?_)
        refine lv_lload hx hb dX4_goOn_53 (lv_at hl 4 rfl) ?_
        refine lv_iload hx hb dX4_goOn_55 (lv_at hl 7 rfl) ?_
        refine lv_lushr (v := (jlushr v12 v18)) hx hb dX4_goOn_57 rfl ?_
        refine lv_lconst (v := (1 : Int64)) hx hb dX4_goOn_58 (by decide) ?_
        refine lv_land hx hb dX4_goOn_59 ?_
        refine lv_lconst (v := (0 : Int64)) hx hb dX4_goOn_60 (by decide) ?_
        refine W.lcmp hx hb dX4_goOn_61 ?_
        refine lv_if_ne (tgt := 96) hx hb dX4_goOn_62 (by decide) (fun c_62 => ?_) (fun c_62 => ?_)
        · have hf := if_f c_62 hf
          refine lv_lload hx hb dX4_goOn_96 (lv_at hl 5 rfl) ?_
          refine lv_lconst (v := (0 : Int64)) hx hb dX4_goOn_98 (by decide) ?_
          refine W.lcmp hx hb dX4_goOn_99 ?_
          refine lv_if_ne (tgt := 122) hx hb dX4_goOn_100 (by decide) (fun c_100 => ?_) (fun c_100 => ?_)
          · have hf := if_f c_100 hf
            exact L122 v10 v11 v12 v14 v16 v18 s0 m_t_ways m_t_leastRank m_t_tried m_t_kept hf H locs ls hP hD hS (lv_sub hl [1, 2, 3, 4, 5, 6, 7, 0] rfl)
          · have hf := if_t c_100 hf
            refine lv_lload hx hb dX4_goOn_103 (lv_at hl 4 rfl) ?_
            refine lv_iload hx hb dX4_goOn_105 (lv_at hl 7 rfl) ?_
            refine lv_lushr (v := (jlushr v12 v18)) hx hb dX4_goOn_107 rfl ?_
            refine lv_lconst (v := (1 : Int64)) hx hb dX4_goOn_108 (by decide) ?_
            refine W.lcmp hx hb dX4_goOn_109 ?_
            refine lv_if_ne (tgt := 122) hx hb dX4_goOn_110 (by decide) (fun c_110 => ?_) (fun c_110 => ?_)
            · have hf := if_f c_110 hf
              exact L122 v10 v11 v12 v14 v16 v18 s0 m_t_ways m_t_leastRank m_t_tried m_t_kept hf H locs ls hP hD hS (lv_sub hl [1, 2, 3, 4, 5, 6, 7, 0] rfl)
            · have hf := if_t c_110 hf
              refine lv_lload hx hb dX4_goOn_113 (lv_at hl 6 rfl) ?_
              refine lv_lconst (v := (1 : Int64)) hx hb dX4_goOn_115 (by decide) ?_
              refine lv_iload hx hb dX4_goOn_116 (lv_at hl 7 rfl) ?_
              refine lv_lshl (v := (jlshl (1 : Int64) v18)) hx hb dX4_goOn_118 rfl ?_
              refine lv_lor hx hb dX4_goOn_119 ?_
              refine lv_lstore (lv' := [(16, .long (v16 ||| (jlshl (1 : Int64) v18))), (19, .int s0), (0, .ref a_t), (10, .int v10), (11, .int v11), (12, .long v12), (14, .long v14), (18, .int v18)]) hx hb dX4_goOn_120 hl (by decide) rfl (fun ls hl => ?_)
              exact L122 v10 v11 v12 v14 (v16 ||| (jlshl (1 : Int64) v18)) v18 s0 m_t_ways m_t_leastRank m_t_tried m_t_kept hf H locs ls hP hD hS (lv_sub hl [2, 3, 4, 5, 6, 0, 7, 1] rfl)
        · have hf := if_t c_62 hf
          refine lv_iload hx hb dX4_goOn_65 (lv_at hl 0 rfl) ?_
          refine lv_if_eq (tgt := 190) hx hb dX4_goOn_67 (by decide) (fun c_67 => ?_) (fun c_67 => ?_)
          · have hf := if_t c_67 hf
            refine lv_iinc (v := (v18 + (1 : Int32))) (lv' := [(18, .int (v18 + (1 : Int32))), (19, .int s0), (0, .ref a_t), (10, .int v10), (11, .int v11), (12, .long v12), (14, .long v14), (16, .long v16)]) hx hb dX4_goOn_190 hl (k := 7) rfl rfl (by decide) rfl (fun ls hl => ?_)
            refine lv_goto (tgt := 21) hx hb dX4_goOn_193 (by decide) ?_
            exact ih21 v10 v11 v12 v14 v16 (v18 + (1 : Int32)) m_t_ways m_t_leastRank m_t_tried m_t_kept hf H locs ls hP hD hS (lv_sub hl [2, 3, 4, 5, 6, 7, 0] rfl)
          · have hf := if_f c_67 hf
            refine lv_aload_n hx hb dX4_goOn_70 rfl (lv_at hl 1 rfl) ?_
            refine gf_X4_15 X hP 0 rfl rfl dX4_goOn_71 ?_
            refine lv_iload hx hb dX4_goOn_74 (lv_at hl 2 rfl) ?_
            refine lv_aload_n hx hb dX4_goOn_76 rfl (lv_at hl 1 rfl) ?_
            refine gf_X4_46 X hP 0 rfl rfl dX4_goOn_77 ?_
            obtain ⟨hi80, hf⟩ := ck_some hf
            refine r_iast X hP hD hS 1 rfl hi80 (ws' := (wd_X4_goOn E a_t a_t_tried a_t_kept a_t_counts x_t_places x_t_beginnings x_t_allowed x_t_leastAllowed x_t_manyAllowed x_t_wish x_t_wishPlace x_t_soonestFirst m_t_ways m_t_leastRank (upd m_t_tried (ix v10) x_t_leastAllowed) m_t_kept x_t_counts)) rfl dX4_goOn_80 (fun H locs hP hD hS => ?_)
            refine lv_iinc (v := (v10 + (1 : Int32))) (lv' := [(10, .int (v10 + (1 : Int32))), (19, .int s0), (0, .ref a_t), (11, .int v11), (12, .long v12), (14, .long v14), (16, .long v16), (18, .int v18)]) hx hb dX4_goOn_81 hl (k := 2) rfl rfl (by decide) rfl (fun ls hl => ?_)
            refine lv_iload hx hb dX4_goOn_84 (lv_at hl 3 rfl) ?_
            refine lv_aload_n hx hb dX4_goOn_86 rfl (lv_at hl 2 rfl) ?_
            refine gf_X4_55 X hP 0 rfl rfl dX4_goOn_87 ?_
            refine lv_imul hx hb dX4_goOn_90 ?_
            refine lv_istore (lv' := [(11, .int (v11 * x_t_manyAllowed)), (10, .int (v10 + (1 : Int32))), (19, .int s0), (0, .ref a_t), (12, .long v12), (14, .long v14), (16, .long v16), (18, .int v18)]) hx hb dX4_goOn_91 hl (by decide) rfl (fun ls hl => ?_)
            refine lv_goto (tgt := 190) hx hb dX4_goOn_93 (by decide) ?_
            refine lv_iinc (v := (v18 + (1 : Int32))) (lv' := [(18, .int (v18 + (1 : Int32))), (11, .int (v11 * x_t_manyAllowed)), (10, .int (v10 + (1 : Int32))), (19, .int s0), (0, .ref a_t), (12, .long v12), (14, .long v14), (16, .long v16)]) hx hb dX4_goOn_190 hl (k := 7) rfl rfl (by decide) rfl (fun ls hl => ?_)
            refine lv_goto (tgt := 21) hx hb dX4_goOn_193 (by decide) ?_
            exact ih21 (v10 + (1 : Int32)) (v11 * x_t_manyAllowed) v12 v14 v16 (v18 + (1 : Int32)) m_t_ways m_t_leastRank (upd m_t_tried (ix v10) x_t_leastAllowed) m_t_kept hf H locs ls hP hD hS (lv_sub hl [4, 2, 1, 5, 6, 7, 0] rfl)
      intro v10 v11 v12 v14 v16 v18 m_t_ways m_t_leastRank m_t_tried m_t_kept hf H locs ls hP hD hS hl
      rw [f_X4_goOn_21] at hf
      refine lv_iload hx hb dX4_goOn_21 (lv_at hl 6 rfl) ?_
      refine lv_aload_n hx hb dX4_goOn_23 rfl (lv_at hl 0 rfl) ?_
      refine gf_X4_34 X hP 0 rfl rfl dX4_goOn_24 ?_
      refine lv_icmp_ge (tgt := 196) hx hb dX4_goOn_27 (by decide) (fun c_27 => ?_) (fun c_27 => ?_)
      · have hf := if_t c_27 hf
        refine lv_aload_n hx hb dX4_goOn_196 rfl (lv_at hl 0 rfl) ?_
        refine lv_lload hx hb dX4_goOn_197 (lv_at hl 4 rfl) ?_
        refine lv_lload hx hb dX4_goOn_199 (lv_at hl 5 rfl) ?_
        refine lv_iload hx hb dX4_goOn_201 (lv_at hl 2 rfl) ?_
        obtain ⟨r203, hc203, hf⟩ := bd_some hf
        refine cV_V X hA hP hD hS hl.1 (c_X4_weigh l E a_t a_t_tried a_t_kept (.ref a_t_counts) x_t_places x_t_beginnings x_t_allowed x_t_leastAllowed x_t_manyAllowed x_t_wish x_t_wishPlace x_t_soonestFirst m_t_ways m_t_leastRank m_t_tried m_t_kept v14 v16 v11 r203 hc203) 3 k_534 mw_X4_weigh hd_X4_weigh ⟨by show 2 + 1 ≤ (f0 + 6); omega, by show 8 + (7 + 11) + 60 ≤ (k0 + 200); omega⟩ [0, 1, 2] [3] [1, 2, 3, 0] rfl rfl (wr := [3].filterMap (fun i => (wd_X4_goOn E a_t a_t_tried a_t_kept a_t_counts x_t_places x_t_beginnings x_t_allowed x_t_leastAllowed x_t_manyAllowed x_t_wish x_t_wishPlace x_t_soonestFirst m_t_ways m_t_leastRank m_t_tried m_t_kept x_t_counts)[i]?)) rfl rfl rfl 4 0 rfl rfl rfl rfl rfl (Nat.le_of_ble_eq_true rfl) rfl (ws' := (wd_X4_goOn E a_t a_t_tried a_t_kept a_t_counts x_t_places x_t_beginnings x_t_allowed x_t_leastAllowed x_t_manyAllowed x_t_wish x_t_wishPlace x_t_soonestFirst r203.1 r203.2.1 m_t_tried r203.2.2 x_t_counts)) rfl ⟨Nat.le_of_ble_eq_true rfl, Nat.le_of_ble_eq_true rfl⟩ dX4_goOn_203 (fun H locs hP hD hS => ?_)
        exact fin' _ _ _ _ hf 206 ls H locs dX4_goOn_206 hP hD hS
      · have hf := if_f c_27 hf
        refine lv_aload_n hx hb dX4_goOn_30 rfl (lv_at hl 0 rfl) ?_
        refine gf_X4_18 X hP 0 rfl rfl dX4_goOn_31 ?_
        refine lv_iload hx hb dX4_goOn_34 (lv_at hl 6 rfl) ?_
        obtain ⟨hi36, hf⟩ := ck_some hf
        refine r_iald X hP 3 rfl hi36 dX4_goOn_36 ?_
        refine lv_if_ne (tgt := 50) hx hb dX4_goOn_37 (by decide) (fun c_37 => ?_) (fun c_37 => ?_)
        · have hf := if_f c_37 hf
          refine lv_iconst (v := (0 : Int32)) hx hb dX4_goOn_50 (by decide) ?_
          exact L51 v10 v11 v12 v14 v16 v18 (0 : Int32) m_t_ways m_t_leastRank m_t_tried m_t_kept hf H locs ls hP hD hS (lv_sub hl [0, 1, 2, 3, 4, 5, 6] rfl)
        · have hf := if_t c_37 hf
          refine lv_iload hx hb dX4_goOn_40 (lv_at hl 1 rfl) ?_
          refine lv_iconst (v := (4 : Int32)) hx hb dX4_goOn_42 (by decide) ?_
          refine lv_icmp_ge (tgt := 50) hx hb dX4_goOn_43 (by decide) (fun c_43 => ?_) (fun c_43 => ?_)
          · have hf := if_t c_43 hf
            refine lv_iconst (v := (0 : Int32)) hx hb dX4_goOn_50 (by decide) ?_
            exact L51 v10 v11 v12 v14 v16 v18 (0 : Int32) m_t_ways m_t_leastRank m_t_tried m_t_kept hf H locs ls hP hD hS (lv_sub hl [0, 1, 2, 3, 4, 5, 6] rfl)
          · have hf := if_f c_43 hf
            refine lv_iconst (v := (1 : Int32)) hx hb dX4_goOn_46 (by decide) ?_
            refine lv_goto (tgt := 51) hx hb dX4_goOn_47 (by decide) ?_
            exact L51 v10 v11 v12 v14 v16 v18 (1 : Int32) m_t_ways m_t_leastRank m_t_tried m_t_kept hf H locs ls hP hD hS (lv_sub hl [0, 1, 2, 3, 4, 5, 6] rfl)
  have hS : va_S A s.heap s.heap [] := va_S.rf
  obtain ⟨H, hH9⟩ : ∃ z, z = s.heap := ⟨_, rfl⟩
  obtain ⟨locs, hL9⟩ : ∃ z : List Loc, z = [] := ⟨_, rfl⟩
  rw [← hL9]
  rw [← hL9] at hS
  have hP : va_P E.1 vwCl (wd_X4_goOn E a_t a_t_tried a_t_kept a_t_counts x_t_places x_t_beginnings x_t_allowed x_t_leastAllowed x_t_manyAllowed x_t_wish x_t_wishPlace x_t_soonestFirst x_t_ways x_t_leastRank x_t_tried x_t_kept x_t_counts) H := by rw [hH9]; exact hP
  have hS : va_S A s.heap H locs := by rw [hH9]; exact hS
  suffices hgoal : W p l e (rmm (f0 + 6) (k0 + 200)) s m ([.ref a_t, .int p1, .int p2, .long p3, .long p4, .long p5, .int p6] : List Value).toArray below meth c H locs 0 0 Q (F0 m 0 ls []) by rw [hH9] at hgoal; exact hgoal
  rw [f_X4_goOn_b] at hf
  refine lv_iload_n hx hb dX4_goOn_0 rfl (lv_at hl 2 rfl) ?_
  refine lv_istore (lv' := [(10, .int p2), (0, .ref a_t), (1, .int p1), (2, .int p2), (3, .long p3), (5, .long p4), (7, .long p5), (9, .int p6)]) hx hb dX4_goOn_1 hl (by decide) rfl (fun ls hl => ?_)
  refine lv_iload hx hb dX4_goOn_3 (lv_at hl 7 rfl) ?_
  refine lv_istore (lv' := [(11, .int p6), (10, .int p2), (0, .ref a_t), (1, .int p1), (2, .int p2), (3, .long p3), (5, .long p4), (7, .long p5), (9, .int p6)]) hx hb dX4_goOn_5 hl (by decide) rfl (fun ls hl => ?_)
  refine lv_lload_n hx hb dX4_goOn_7 rfl (lv_at hl 5 rfl) ?_
  refine lv_lstore (lv' := [(12, .long p3), (11, .int p6), (10, .int p2), (0, .ref a_t), (1, .int p1), (2, .int p2), (3, .long p3), (5, .long p4), (7, .long p5), (9, .int p6)]) hx hb dX4_goOn_8 hl (by decide) rfl (fun ls hl => ?_)
  refine lv_lload hx hb dX4_goOn_10 (lv_at hl 7 rfl) ?_
  refine lv_lstore (lv' := [(14, .long p4), (12, .long p3), (11, .int p6), (10, .int p2), (0, .ref a_t), (1, .int p1), (2, .int p2), (3, .long p3), (5, .long p4), (7, .long p5), (9, .int p6)]) hx hb dX4_goOn_12 hl (by decide) rfl (fun ls hl => ?_)
  refine lv_lload hx hb dX4_goOn_14 (lv_at hl 9 rfl) ?_
  refine lv_lstore (lv' := [(16, .long p5), (14, .long p4), (12, .long p3), (11, .int p6), (10, .int p2), (0, .ref a_t), (1, .int p1), (2, .int p2), (3, .long p3), (5, .long p4), (7, .long p5), (9, .int p6)]) hx hb dX4_goOn_16 hl (by decide) rfl (fun ls hl => ?_)
  refine lv_iload_n hx hb dX4_goOn_18 rfl (lv_at hl 6 rfl) ?_
  refine lv_istore (lv' := [(18, .int p1), (16, .long p5), (14, .long p4), (12, .long p3), (11, .int p6), (10, .int p2), (0, .ref a_t), (1, .int p1), (2, .int p2), (3, .long p3), (5, .long p4), (7, .long p5), (9, .int p6)]) hx hb dX4_goOn_19 hl (by decide) rfl (fun ls hl => ?_)
  exact L21 FU p2 p6 p3 p4 p5 p1 x_t_ways x_t_leastRank x_t_tried x_t_kept hf H locs ls hP hD hS (lv_sub hl [6, 5, 4, 3, 2, 1, 0] rfl)
def f_X4_goOn : Nat → Int32 → Int32 → Int64 → Int64 → Int64 → Int32 → Int32 → Int32 → Int32 → Int32 → Int32 → Int32 → Int32 → Int32 → Int32 → Int32 → (Nat → Int32) → (Nat → Int32) → (Nat → Int32) → Option (Int32 × Int32 × (Nat → Int32) × (Nat → Int32))
  | 0, _, _, _, _, _, _, _, _, _, _, _, _, _, _, _, _, _, _, _ => none
  | d + 1, p1, p2, p3, p4, p5, p6, x_t_places, x_t_beginnings, x_t_allowed, x_t_leastAllowed, x_t_manyAllowed, x_t_wish, x_t_wishPlace, x_t_soonestFirst, x_t_ways, x_t_leastRank, x_t_tried, x_t_kept, x_t_counts => f_X4_goOn_b (f_X4_goOn d) p1 p2 p3 p4 p5 p6 x_t_places x_t_beginnings x_t_allowed x_t_leastAllowed x_t_manyAllowed x_t_wish x_t_wishPlace x_t_soonestFirst x_t_ways x_t_leastRank x_t_tried x_t_kept x_t_counts
theorem c_X4_goOn (l : Launch) (E : EN) (a_t a_t_tried a_t_kept a_t_counts : Nat) : ∀ (d : Nat) (x_t_places : Int32) (x_t_beginnings : Int32) (x_t_allowed : Int32) (x_t_leastAllowed : Int32) (x_t_manyAllowed : Int32) (x_t_wish : Int32) (x_t_wishPlace : Int32) (x_t_soonestFirst : Int32) (x_t_ways : Int32) (x_t_leastRank : Int32) (x_t_tried : Nat → Int32) (x_t_kept : Nat → Int32) (x_t_counts : Nat → Int32) (p1 : Int32) (p2 : Int32) (p3 : Int64) (p4 : Int64) (p5 : Int64) (p6 : Int32) (res : Int32 × Int32 × (Nat → Int32) × (Nat → Int32)), f_X4_goOn d p1 p2 p3 p4 p5 p6 x_t_places x_t_beginnings x_t_allowed x_t_leastAllowed x_t_manyAllowed x_t_wish x_t_wishPlace x_t_soonestFirst x_t_ways x_t_leastRank x_t_tried x_t_kept x_t_counts = some res → CtV l yX4_goOn cX4_goOn 20 (6 * d) (200 * d) E [.ref a_t, .int p1, .int p2, .long p3, .long p4, .long p5, .int p6] (wd_X4_goOn E a_t a_t_tried a_t_kept a_t_counts x_t_places x_t_beginnings x_t_allowed x_t_leastAllowed x_t_manyAllowed x_t_wish x_t_wishPlace x_t_soonestFirst x_t_ways x_t_leastRank x_t_tried x_t_kept x_t_counts) (wd_X4_goOn E a_t a_t_tried a_t_kept a_t_counts x_t_places x_t_beginnings x_t_allowed x_t_leastAllowed x_t_manyAllowed x_t_wish x_t_wishPlace x_t_soonestFirst res.1 res.2.1 res.2.2.1 res.2.2.2 x_t_counts) := by
  intro d
  induction d with
  | zero => intro x_t_places x_t_beginnings x_t_allowed x_t_leastAllowed x_t_manyAllowed x_t_wish x_t_wishPlace x_t_soonestFirst x_t_ways x_t_leastRank x_t_tried x_t_kept x_t_counts p1 p2 p3 p4 p5 p6 res hf; rw [f_X4_goOn] at hf; cases hf
  | succ d ih =>
    intro x_t_places x_t_beginnings x_t_allowed x_t_leastAllowed x_t_manyAllowed x_t_wish x_t_wishPlace x_t_soonestFirst x_t_ways x_t_leastRank x_t_tried x_t_kept x_t_counts p1 p2 p3 p4 p5 p6 res hf
    rw [f_X4_goOn] at hf
    exact c_X4_goOn_b l E a_t a_t_tried a_t_kept a_t_counts (f_X4_goOn d) (6 * d) (200 * d) ih x_t_places x_t_beginnings x_t_allowed x_t_leastAllowed x_t_manyAllowed x_t_wish x_t_wishPlace x_t_soonestFirst x_t_ways x_t_leastRank x_t_tried x_t_kept x_t_counts p1 p2 p3 p4 p5 p6 res hf
abbrev wd_X4_seek (E : EN) (a_t : Nat) (a_p1 : Nat) (a_p1_counts : Nat) (a_t_counts : Nat) (a_t_tried : Nat) (a_t_kept : Nat) (x_t_places : Int32) (x_t_beginnings : Int32) (x_t_allowed : Int32) (x_t_leastAllowed : Int32) (x_t_manyAllowed : Int32) (x_t_wish : Int32) (x_t_wishPlace : Int32) (x_t_soonestFirst : Int32) (x_t_ways : Int32) (x_t_leastRank : Int32) (w_p1_ends : Value) (w_p1_comers : Value) (w_p1_leaders : Value) (w_p1_chains : Value) (x_p1_places : Int32) (x_p1_beginnings : Int32) (x_p1_counts : Nat → Int32) (x_t_counts : Nat → Int32) (x_t_tried : Nat → Int32) (x_t_kept : Nat → Int32) : va_W := [(a_t, e_O 4 [.ref a_t_kept, .ref a_t_tried, .ref a_t_counts, .int x_t_places, .int x_t_beginnings, .int x_t_allowed, .int x_t_leastAllowed, .int x_t_manyAllowed, .int x_t_wish, .int x_t_wishPlace, .int x_t_soonestFirst, .int x_t_ways, .int x_t_leastRank]), (a_p1, e_O 2 [.ref a_p1_counts, w_p1_ends, w_p1_comers, w_p1_leaders, w_p1_chains, .int x_p1_places, .int x_p1_beginnings]), (a_p1_counts, e_I E 40 x_p1_counts), (a_t_counts, e_I E 40 x_t_counts), (a_t_tried, e_I E 4 x_t_tried), (a_t_kept, e_I E 4 x_t_kept)]
def f_X4_seek (p2 : Int32) (p3 : Int32) (p4 : Int32) (p5 : Int32) (x_p1_places : Int32) (x_p1_beginnings : Int32) (x_p1_counts : Nat → Int32) (x_t_counts : Nat → Int32) (x_t_tried : Nat → Int32) (x_t_kept : Nat → Int32) : Option (Int32 × Int32 × Int32 × Int32 × Int32 × Int32 × Int32 × Int32 × Int32 × Int32 × (Nat → Int32) × (Nat → Int32) × (Nat → Int32)) :=
  Option.bind (f_X5_leastBit p2.toInt64) (fun r39 =>
  Option.bind (f_J6_bitCount_0f7a4 p2) (fun r47 =>
  ck (isB p5) (
  Option.bind (f_X4_goOn 8 (0 : Int32) (0 : Int32) ((jlshl (1 : Int64) x_p1_beginnings) - (1 : Int64)) (0 : Int64) (0 : Int64) (1 : Int32) x_p1_places x_p1_beginnings p2 r39 r47 p3 p4 p5 (0 : Int32) (40 : Int32) x_t_tried x_t_kept (va_cpy x_p1_counts x_t_counts (ix (0 : Int32)) (ix (0 : Int32)) (ix (40 : Int32)))) (fun r95 =>
  some (x_p1_places, x_p1_beginnings, p2, r39, r47, p3, p4, p5, r95.1, r95.2.1, (va_cpy x_p1_counts x_t_counts (ix (0 : Int32)) (ix (0 : Int32)) (ix (40 : Int32))), r95.2.2.1, r95.2.2.2)))))
set_option maxHeartbeats 4000000 in
set_option maxRecDepth 100000 in
theorem c_X4_seek (l : Launch) (E : EN) (a_t a_p1 a_p1_counts a_t_counts a_t_tried a_t_kept : Nat) (x_t_places : Int32) (x_t_beginnings : Int32) (x_t_allowed : Int32) (x_t_leastAllowed : Int32) (x_t_manyAllowed : Int32) (x_t_wish : Int32) (x_t_wishPlace : Int32) (x_t_soonestFirst : Int32) (x_t_ways : Int32) (x_t_leastRank : Int32) (w_p1_ends : Value) (w_p1_comers : Value) (w_p1_leaders : Value) (w_p1_chains : Value) (x_p1_places : Int32) (x_p1_beginnings : Int32) (x_p1_counts : Nat → Int32) (x_t_counts : Nat → Int32) (x_t_tried : Nat → Int32) (x_t_kept : Nat → Int32) (p2 : Int32) (p3 : Int32) (p4 : Int32) (p5 : Int32) (res : Int32 × Int32 × Int32 × Int32 × Int32 × Int32 × Int32 × Int32 × Int32 × Int32 × (Nat → Int32) × (Nat → Int32) × (Nat → Int32)) (hf : f_X4_seek p2 p3 p4 p5 x_p1_places x_p1_beginnings x_p1_counts x_t_counts x_t_tried x_t_kept = some res) : CtV l yX4_seek cX4_seek 6 49 1639 E [.ref a_t, .ref a_p1, .int p2, .int p3, .int p4, .int p5] (wd_X4_seek E a_t a_p1 a_p1_counts a_t_counts a_t_tried a_t_kept x_t_places x_t_beginnings x_t_allowed x_t_leastAllowed x_t_manyAllowed x_t_wish x_t_wishPlace x_t_soonestFirst x_t_ways x_t_leastRank w_p1_ends w_p1_comers w_p1_leaders w_p1_chains x_p1_places x_p1_beginnings x_p1_counts x_t_counts x_t_tried x_t_kept) (wd_X4_seek E a_t a_p1 a_p1_counts a_t_counts a_t_tried a_t_kept res.1 res.2.1 res.2.2.1 res.2.2.2.1 res.2.2.2.2.1 res.2.2.2.2.2.1 res.2.2.2.2.2.2.1 res.2.2.2.2.2.2.2.1 res.2.2.2.2.2.2.2.2.1 res.2.2.2.2.2.2.2.2.2.1 w_p1_ends w_p1_comers w_p1_leaders w_p1_chains x_p1_places x_p1_beginnings x_p1_counts res.2.2.2.2.2.2.2.2.2.2.1 res.2.2.2.2.2.2.2.2.2.2.2.1 res.2.2.2.2.2.2.2.2.2.2.2.2) := by
  refine CtV.of RX4 (by decide) rfl (Nat.le_of_ble_eq_true rfl) ?_
  intro p e s m below meth c A Q ls X hA hP hD hl fin
  have hx := X.1
  have hb := X.2.1
  have hl : lv_has ls 6 [(0, .ref a_t), (1, .ref a_p1), (2, .int p2), (3, .int p3), (4, .int p4), (5, .int p5)] := hl
  have fin' : ∀ (fr0 : Int32) (fr1 : Int32) (fr2 : Int32) (fr3 : Int32) (fr4 : Int32) (fr5 : Int32) (fr6 : Int32) (fr7 : Int32) (fr8 : Int32) (fr9 : Int32) (fr10 : (Nat → Int32)) (fr11 : (Nat → Int32)) (fr12 : (Nat → Int32)), some (fr0, fr1, fr2, fr3, fr4, fr5, fr6, fr7, fr8, fr9, fr10, fr11, fr12) = some res → ∀ (pc : Nat) (ls : Array Slot) (H : Heap) (locs : List Loc), decode cX4_seek pc = .ok (.return_, 1) → va_P E.1 vwCl (wd_X4_seek E a_t a_p1 a_p1_counts a_t_counts a_t_tried a_t_kept fr0 fr1 fr2 fr3 fr4 fr5 fr6 fr7 fr8 fr9 w_p1_ends w_p1_comers w_p1_leaders w_p1_chains x_p1_places x_p1_beginnings x_p1_counts fr10 fr11 fr12) H → va_D A (wd_X4_seek E a_t a_p1 a_p1_counts a_t_counts a_t_tried a_t_kept fr0 fr1 fr2 fr3 fr4 fr5 fr6 fr7 fr8 fr9 w_p1_ends w_p1_comers w_p1_leaders w_p1_chains x_p1_places x_p1_beginnings x_p1_counts fr10 fr11 fr12) → va_S A s.heap H locs → W p l e (rmm 49 1639) s m ([.ref a_t, .ref a_p1, .int p2, .int p3, .int p4, .int p5] : List Value).toArray below meth c H locs 0 0 Q (F0 m pc ls []) := by
    intro fr0 fr1 fr2 fr3 fr4 fr5 fr6 fr7 fr8 fr9 fr10 fr11 fr12 he
    cases he
    exact fin
  have hS : va_S A s.heap s.heap [] := va_S.rf
  obtain ⟨H, hH9⟩ : ∃ z, z = s.heap := ⟨_, rfl⟩
  obtain ⟨locs, hL9⟩ : ∃ z : List Loc, z = [] := ⟨_, rfl⟩
  rw [← hL9]
  rw [← hL9] at hS
  have hP : va_P E.1 vwCl (wd_X4_seek E a_t a_p1 a_p1_counts a_t_counts a_t_tried a_t_kept x_t_places x_t_beginnings x_t_allowed x_t_leastAllowed x_t_manyAllowed x_t_wish x_t_wishPlace x_t_soonestFirst x_t_ways x_t_leastRank w_p1_ends w_p1_comers w_p1_leaders w_p1_chains x_p1_places x_p1_beginnings x_p1_counts x_t_counts x_t_tried x_t_kept) H := by rw [hH9]; exact hP
  have hS : va_S A s.heap H locs := by rw [hH9]; exact hS
  suffices hgoal : W p l e (rmm 49 1639) s m ([.ref a_t, .ref a_p1, .int p2, .int p3, .int p4, .int p5] : List Value).toArray below meth c H locs 0 0 Q (F0 m 0 ls []) by rw [hH9] at hgoal; exact hgoal
  rw [f_X4_seek] at hf
  refine lv_aload_n hx hb dX4_seek_0 rfl (lv_at hl 1 rfl) ?_
  refine gf_X4_21 X hP 1 rfl rfl dX4_seek_1 ?_
  refine lv_iconst (v := (0 : Int32)) hx hb dX4_seek_4 (by decide) ?_
  refine lv_aload_n hx hb dX4_seek_5 rfl (lv_at hl 0 rfl) ?_
  refine gf_X4_18 X hP 0 rfl rfl dX4_seek_6 ?_
  refine lv_iconst (v := (0 : Int32)) hx hb dX4_seek_9 (by decide) ?_
  refine lv_bipush (v := (40 : Int32)) hx hb dX4_seek_10 (by decide) ?_
  refine r_copyI X hl.1 k_518 hP hD hS 2 3 rfl rfl (by decide) (Nat.le_of_ble_eq_true rfl) (Nat.le_of_ble_eq_true rfl) (ws' := (wd_X4_seek E a_t a_p1 a_p1_counts a_t_counts a_t_tried a_t_kept x_t_places x_t_beginnings x_t_allowed x_t_leastAllowed x_t_manyAllowed x_t_wish x_t_wishPlace x_t_soonestFirst x_t_ways x_t_leastRank w_p1_ends w_p1_comers w_p1_leaders w_p1_chains x_p1_places x_p1_beginnings x_p1_counts (va_cpy x_p1_counts x_t_counts (ix (0 : Int32)) (ix (0 : Int32)) (ix (40 : Int32))) x_t_tried x_t_kept)) rfl dX4_seek_12 (fun H locs hP hD hS => ?_)
  refine lv_aload_n hx hb dX4_seek_15 rfl (lv_at hl 0 rfl) ?_
  refine lv_aload_n hx hb dX4_seek_16 rfl (lv_at hl 1 rfl) ?_
  refine gf_X4_30 X hP 1 rfl rfl dX4_seek_17 ?_
  refine pf_X4_34 X hP hD hS 0 rfl (Nat.le_of_ble_eq_true rfl) (ws' := (wd_X4_seek E a_t a_p1 a_p1_counts a_t_counts a_t_tried a_t_kept x_p1_places x_t_beginnings x_t_allowed x_t_leastAllowed x_t_manyAllowed x_t_wish x_t_wishPlace x_t_soonestFirst x_t_ways x_t_leastRank w_p1_ends w_p1_comers w_p1_leaders w_p1_chains x_p1_places x_p1_beginnings x_p1_counts (va_cpy x_p1_counts x_t_counts (ix (0 : Int32)) (ix (0 : Int32)) (ix (40 : Int32))) x_t_tried x_t_kept)) rfl dX4_seek_20 (fun H locs hP hD hS => ?_)
  refine lv_aload_n hx hb dX4_seek_23 rfl (lv_at hl 0 rfl) ?_
  refine lv_aload_n hx hb dX4_seek_24 rfl (lv_at hl 1 rfl) ?_
  refine gf_X4_35 X hP 1 rfl rfl dX4_seek_25 ?_
  refine pf_X4_38 X hP hD hS 0 rfl (Nat.le_of_ble_eq_true rfl) (ws' := (wd_X4_seek E a_t a_p1 a_p1_counts a_t_counts a_t_tried a_t_kept x_p1_places x_p1_beginnings x_t_allowed x_t_leastAllowed x_t_manyAllowed x_t_wish x_t_wishPlace x_t_soonestFirst x_t_ways x_t_leastRank w_p1_ends w_p1_comers w_p1_leaders w_p1_chains x_p1_places x_p1_beginnings x_p1_counts (va_cpy x_p1_counts x_t_counts (ix (0 : Int32)) (ix (0 : Int32)) (ix (40 : Int32))) x_t_tried x_t_kept)) rfl dX4_seek_28 (fun H locs hP hD hS => ?_)
  refine lv_aload_n hx hb dX4_seek_31 rfl (lv_at hl 0 rfl) ?_
  refine lv_iload_n hx hb dX4_seek_32 rfl (lv_at hl 2 rfl) ?_
  refine pf_X4_39 X hP hD hS 0 rfl (Nat.le_of_ble_eq_true rfl) (ws' := (wd_X4_seek E a_t a_p1 a_p1_counts a_t_counts a_t_tried a_t_kept x_p1_places x_p1_beginnings p2 x_t_leastAllowed x_t_manyAllowed x_t_wish x_t_wishPlace x_t_soonestFirst x_t_ways x_t_leastRank w_p1_ends w_p1_comers w_p1_leaders w_p1_chains x_p1_places x_p1_beginnings x_p1_counts (va_cpy x_p1_counts x_t_counts (ix (0 : Int32)) (ix (0 : Int32)) (ix (40 : Int32))) x_t_tried x_t_kept)) rfl dX4_seek_33 (fun H locs hP hD hS => ?_)
  refine lv_aload_n hx hb dX4_seek_36 rfl (lv_at hl 0 rfl) ?_
  refine lv_iload_n hx hb dX4_seek_37 rfl (lv_at hl 2 rfl) ?_
  refine lv_i2l (v := p2.toInt64) hx hb dX4_seek_38 rfl ?_
  obtain ⟨r39, hc39, hf⟩ := bd_some hf
  refine cN_I X hA hP hD hS hl.1 (c_X5_leastBit l E p2.toInt64 r39 hc39) 1 X.2.2.2.2.2.2.2.1 mw_X5_leastBit hd_X5_leastBit ⟨Nat.le_of_ble_eq_true rfl, Nat.le_of_ble_eq_true rfl⟩ [] [0, 1, 2, 3, 4, 5] [0, 1, 2, 3, 4, 5] rfl rfl (wr := [0, 1, 2, 3, 4, 5].filterMap (fun i => (wd_X4_seek E a_t a_p1 a_p1_counts a_t_counts a_t_tried a_t_kept x_p1_places x_p1_beginnings p2 x_t_leastAllowed x_t_manyAllowed x_t_wish x_t_wishPlace x_t_soonestFirst x_t_ways x_t_leastRank w_p1_ends w_p1_comers w_p1_leaders w_p1_chains x_p1_places x_p1_beginnings x_p1_counts (va_cpy x_p1_counts x_t_counts (ix (0 : Int32)) (ix (0 : Int32)) (ix (40 : Int32))) x_t_tried x_t_kept)[i]?)) rfl rfl rfl rfl rfl (Nat.le_of_ble_eq_true rfl) rfl (ws' := (wd_X4_seek E a_t a_p1 a_p1_counts a_t_counts a_t_tried a_t_kept x_p1_places x_p1_beginnings p2 x_t_leastAllowed x_t_manyAllowed x_t_wish x_t_wishPlace x_t_soonestFirst x_t_ways x_t_leastRank w_p1_ends w_p1_comers w_p1_leaders w_p1_chains x_p1_places x_p1_beginnings x_p1_counts (va_cpy x_p1_counts x_t_counts (ix (0 : Int32)) (ix (0 : Int32)) (ix (40 : Int32))) x_t_tried x_t_kept)) rfl ⟨Nat.le_of_ble_eq_true rfl, Nat.le_of_ble_eq_true rfl⟩ dX4_seek_39 (fun H locs hP hD hS => ?_)
  refine pf_X4_46 X hP hD hS 0 rfl (Nat.le_of_ble_eq_true rfl) (ws' := (wd_X4_seek E a_t a_p1 a_p1_counts a_t_counts a_t_tried a_t_kept x_p1_places x_p1_beginnings p2 r39 x_t_manyAllowed x_t_wish x_t_wishPlace x_t_soonestFirst x_t_ways x_t_leastRank w_p1_ends w_p1_comers w_p1_leaders w_p1_chains x_p1_places x_p1_beginnings x_p1_counts (va_cpy x_p1_counts x_t_counts (ix (0 : Int32)) (ix (0 : Int32)) (ix (40 : Int32))) x_t_tried x_t_kept)) rfl dX4_seek_42 (fun H locs hP hD hS => ?_)
  refine lv_aload_n hx hb dX4_seek_45 rfl (lv_at hl 0 rfl) ?_
  refine lv_iload_n hx hb dX4_seek_46 rfl (lv_at hl 2 rfl) ?_
  obtain ⟨r47, hc47, hf⟩ := bd_some hf
  refine cS_I X hA hP hD hS hl.1 (c_J6_bitCount_0f7a4 l E p2 r47 hc47) 1 k_520 mw_J6_bitCount_0f7a4 hd_J6_bitCount_0f7a4 ⟨Nat.le_of_ble_eq_true rfl, Nat.le_of_ble_eq_true rfl⟩ [] [0, 1, 2, 3, 4, 5] [0, 1, 2, 3, 4, 5] rfl rfl (wr := [0, 1, 2, 3, 4, 5].filterMap (fun i => (wd_X4_seek E a_t a_p1 a_p1_counts a_t_counts a_t_tried a_t_kept x_p1_places x_p1_beginnings p2 r39 x_t_manyAllowed x_t_wish x_t_wishPlace x_t_soonestFirst x_t_ways x_t_leastRank w_p1_ends w_p1_comers w_p1_leaders w_p1_chains x_p1_places x_p1_beginnings x_p1_counts (va_cpy x_p1_counts x_t_counts (ix (0 : Int32)) (ix (0 : Int32)) (ix (40 : Int32))) x_t_tried x_t_kept)[i]?)) rfl rfl rfl rfl rfl (Nat.le_of_ble_eq_true rfl) rfl (ws' := (wd_X4_seek E a_t a_p1 a_p1_counts a_t_counts a_t_tried a_t_kept x_p1_places x_p1_beginnings p2 r39 x_t_manyAllowed x_t_wish x_t_wishPlace x_t_soonestFirst x_t_ways x_t_leastRank w_p1_ends w_p1_comers w_p1_leaders w_p1_chains x_p1_places x_p1_beginnings x_p1_counts (va_cpy x_p1_counts x_t_counts (ix (0 : Int32)) (ix (0 : Int32)) (ix (40 : Int32))) x_t_tried x_t_kept)) rfl ⟨Nat.le_of_ble_eq_true rfl, Nat.le_of_ble_eq_true rfl⟩ dX4_seek_47 (fun H locs hP hD hS => ?_)
  refine pf_X4_55 X hP hD hS 0 rfl (Nat.le_of_ble_eq_true rfl) (ws' := (wd_X4_seek E a_t a_p1 a_p1_counts a_t_counts a_t_tried a_t_kept x_p1_places x_p1_beginnings p2 r39 r47 x_t_wish x_t_wishPlace x_t_soonestFirst x_t_ways x_t_leastRank w_p1_ends w_p1_comers w_p1_leaders w_p1_chains x_p1_places x_p1_beginnings x_p1_counts (va_cpy x_p1_counts x_t_counts (ix (0 : Int32)) (ix (0 : Int32)) (ix (40 : Int32))) x_t_tried x_t_kept)) rfl dX4_seek_50 (fun H locs hP hD hS => ?_)
  refine lv_aload_n hx hb dX4_seek_53 rfl (lv_at hl 0 rfl) ?_
  refine lv_iload_n hx hb dX4_seek_54 rfl (lv_at hl 3 rfl) ?_
  refine pf_X4_58 X hP hD hS 0 rfl (Nat.le_of_ble_eq_true rfl) (ws' := (wd_X4_seek E a_t a_p1 a_p1_counts a_t_counts a_t_tried a_t_kept x_p1_places x_p1_beginnings p2 r39 r47 p3 x_t_wishPlace x_t_soonestFirst x_t_ways x_t_leastRank w_p1_ends w_p1_comers w_p1_leaders w_p1_chains x_p1_places x_p1_beginnings x_p1_counts (va_cpy x_p1_counts x_t_counts (ix (0 : Int32)) (ix (0 : Int32)) (ix (40 : Int32))) x_t_tried x_t_kept)) rfl dX4_seek_55 (fun H locs hP hD hS => ?_)
  refine lv_aload_n hx hb dX4_seek_58 rfl (lv_at hl 0 rfl) ?_
  refine lv_iload hx hb dX4_seek_59 (lv_at hl 4 rfl) ?_
  refine pf_X4_61 X hP hD hS 0 rfl (Nat.le_of_ble_eq_true rfl) (ws' := (wd_X4_seek E a_t a_p1 a_p1_counts a_t_counts a_t_tried a_t_kept x_p1_places x_p1_beginnings p2 r39 r47 p3 p4 x_t_soonestFirst x_t_ways x_t_leastRank w_p1_ends w_p1_comers w_p1_leaders w_p1_chains x_p1_places x_p1_beginnings x_p1_counts (va_cpy x_p1_counts x_t_counts (ix (0 : Int32)) (ix (0 : Int32)) (ix (40 : Int32))) x_t_tried x_t_kept)) rfl dX4_seek_61 (fun H locs hP hD hS => ?_)
  refine lv_aload_n hx hb dX4_seek_64 rfl (lv_at hl 0 rfl) ?_
  refine lv_iload hx hb dX4_seek_65 (lv_at hl 5 rfl) ?_
  obtain ⟨hz67, hf⟩ := ck_some hf
  refine pf_X4_64 X hP hD hS 0 rfl hz67 (Nat.le_of_ble_eq_true rfl) (ws' := (wd_X4_seek E a_t a_p1 a_p1_counts a_t_counts a_t_tried a_t_kept x_p1_places x_p1_beginnings p2 r39 r47 p3 p4 p5 x_t_ways x_t_leastRank w_p1_ends w_p1_comers w_p1_leaders w_p1_chains x_p1_places x_p1_beginnings x_p1_counts (va_cpy x_p1_counts x_t_counts (ix (0 : Int32)) (ix (0 : Int32)) (ix (40 : Int32))) x_t_tried x_t_kept)) rfl dX4_seek_67 (fun H locs hP hD hS => ?_)
  refine lv_aload_n hx hb dX4_seek_70 rfl (lv_at hl 0 rfl) ?_
  refine lv_iconst (v := (0 : Int32)) hx hb dX4_seek_71 (by decide) ?_
  refine pf_X4_68 X hP hD hS 0 rfl (Nat.le_of_ble_eq_true rfl) (ws' := (wd_X4_seek E a_t a_p1 a_p1_counts a_t_counts a_t_tried a_t_kept x_p1_places x_p1_beginnings p2 r39 r47 p3 p4 p5 (0 : Int32) x_t_leastRank w_p1_ends w_p1_comers w_p1_leaders w_p1_chains x_p1_places x_p1_beginnings x_p1_counts (va_cpy x_p1_counts x_t_counts (ix (0 : Int32)) (ix (0 : Int32)) (ix (40 : Int32))) x_t_tried x_t_kept)) rfl dX4_seek_72 (fun H locs hP hD hS => ?_)
  refine lv_aload_n hx hb dX4_seek_75 rfl (lv_at hl 0 rfl) ?_
  refine lv_bipush (v := (40 : Int32)) hx hb dX4_seek_76 (by decide) ?_
  refine pf_X4_71 X hP hD hS 0 rfl (Nat.le_of_ble_eq_true rfl) (ws' := (wd_X4_seek E a_t a_p1 a_p1_counts a_t_counts a_t_tried a_t_kept x_p1_places x_p1_beginnings p2 r39 r47 p3 p4 p5 (0 : Int32) (40 : Int32) w_p1_ends w_p1_comers w_p1_leaders w_p1_chains x_p1_places x_p1_beginnings x_p1_counts (va_cpy x_p1_counts x_t_counts (ix (0 : Int32)) (ix (0 : Int32)) (ix (40 : Int32))) x_t_tried x_t_kept)) rfl dX4_seek_78 (fun H locs hP hD hS => ?_)
  refine lv_aload_n hx hb dX4_seek_81 rfl (lv_at hl 0 rfl) ?_
  refine lv_iconst (v := (0 : Int32)) hx hb dX4_seek_82 (by decide) ?_
  refine lv_iconst (v := (0 : Int32)) hx hb dX4_seek_83 (by decide) ?_
  refine lv_lconst (v := (1 : Int64)) hx hb dX4_seek_84 (by decide) ?_
  refine lv_aload_n hx hb dX4_seek_85 rfl (lv_at hl 0 rfl) ?_
  refine gf_X4_38 X hP 0 rfl rfl dX4_seek_86 ?_
  refine lv_lshl (v := (jlshl (1 : Int64) x_p1_beginnings)) hx hb dX4_seek_89 rfl ?_
  refine lv_lconst (v := (1 : Int64)) hx hb dX4_seek_90 (by decide) ?_
  refine lv_lsub hx hb dX4_seek_91 ?_
  refine lv_lconst (v := (0 : Int64)) hx hb dX4_seek_92 (by decide) ?_
  refine lv_lconst (v := (0 : Int64)) hx hb dX4_seek_93 (by decide) ?_
  refine lv_iconst (v := (1 : Int32)) hx hb dX4_seek_94 (by decide) ?_
  obtain ⟨r95, hc95, hf⟩ := bd_some hf
  refine cV_V X hA hP hD hS hl.1 (c_X4_goOn l E a_t a_t_tried a_t_kept a_t_counts 8 x_p1_places x_p1_beginnings p2 r39 r47 p3 p4 p5 (0 : Int32) (40 : Int32) x_t_tried x_t_kept (va_cpy x_p1_counts x_t_counts (ix (0 : Int32)) (ix (0 : Int32)) (ix (40 : Int32))) (0 : Int32) (0 : Int32) ((jlshl (1 : Int64) x_p1_beginnings) - (1 : Int64)) (0 : Int64) (0 : Int64) (1 : Int32) r95 hc95) 6 k_526 mw_X4_goOn hd_X4_goOn ⟨Nat.le_of_ble_eq_true rfl, Nat.le_of_ble_eq_true rfl⟩ [0, 4, 5, 3] [1, 2] [2, 0, 1, 5, 3, 4] rfl rfl (wr := [1, 2].filterMap (fun i => (wd_X4_seek E a_t a_p1 a_p1_counts a_t_counts a_t_tried a_t_kept x_p1_places x_p1_beginnings p2 r39 r47 p3 p4 p5 (0 : Int32) (40 : Int32) w_p1_ends w_p1_comers w_p1_leaders w_p1_chains x_p1_places x_p1_beginnings x_p1_counts (va_cpy x_p1_counts x_t_counts (ix (0 : Int32)) (ix (0 : Int32)) (ix (40 : Int32))) x_t_tried x_t_kept)[i]?)) rfl rfl rfl 4 0 rfl rfl rfl rfl rfl (Nat.le_of_ble_eq_true rfl) rfl (ws' := (wd_X4_seek E a_t a_p1 a_p1_counts a_t_counts a_t_tried a_t_kept x_p1_places x_p1_beginnings p2 r39 r47 p3 p4 p5 r95.1 r95.2.1 w_p1_ends w_p1_comers w_p1_leaders w_p1_chains x_p1_places x_p1_beginnings x_p1_counts (va_cpy x_p1_counts x_t_counts (ix (0 : Int32)) (ix (0 : Int32)) (ix (40 : Int32))) r95.2.2.1 r95.2.2.2)) rfl ⟨Nat.le_of_ble_eq_true rfl, Nat.le_of_ble_eq_true rfl⟩ dX4_seek_95 (fun H locs hP hD hS => ?_)
  exact fin' _ _ _ _ _ _ _ _ _ _ _ _ _ hf 98 ls H locs dX4_seek_98 hP hD hS
