abbrev wd_X1_goOn (E : EN) (a_t : Nat) (a_t_needs : Nat) (a_t_weights : Nat) (a_t_spots : Nat) (a_t_roots : Nat) (x_t_many : Int32) (x_t_places : Int32) (x_t_weightOfAll : Int32) (x_t_manyWeighed : Int32) (x_t_askedSpot : Int32) (x_t_askedCount : Int32) (x_t_ways : Int32) (x_t_weighed : Int64) (x_t_weighedAsked : Int64) (x_t_needs : Nat → Int32) (x_t_weights : Nat → Int32) (x_t_spots : Nat → Int32) (x_t_roots : Nat → Int32) : va_W := [(a_t, e_O 1 [.ref a_t_roots, .ref a_t_spots, .ref a_t_needs, .ref a_t_weights, .int x_t_many, .int x_t_places, .int x_t_weightOfAll, .int x_t_manyWeighed, .int x_t_askedSpot, .int x_t_askedCount, .int x_t_ways, .long x_t_weighed, .long x_t_weighedAsked]), (a_t_needs, e_I E 5 x_t_needs), (a_t_weights, e_I E 11 x_t_weights), (a_t_spots, e_I E 5 x_t_spots), (a_t_roots, e_I E 40 x_t_roots)]
abbrev wd_X1_leadTo (E : EN) (a_t : Nat) (a_t_needs : Nat) (a_t_weights : Nat) (a_t_spots : Nat) (a_t_roots : Nat) (x_t_many : Int32) (x_t_places : Int32) (x_t_weightOfAll : Int32) (x_t_manyWeighed : Int32) (x_t_askedSpot : Int32) (x_t_askedCount : Int32) (x_t_ways : Int32) (x_t_weighed : Int64) (x_t_weighedAsked : Int64) (x_t_needs : Nat → Int32) (x_t_weights : Nat → Int32) (x_t_spots : Nat → Int32) (x_t_roots : Nat → Int32) : va_W := [(a_t, e_O 1 [.ref a_t_roots, .ref a_t_spots, .ref a_t_needs, .ref a_t_weights, .int x_t_many, .int x_t_places, .int x_t_weightOfAll, .int x_t_manyWeighed, .int x_t_askedSpot, .int x_t_askedCount, .int x_t_ways, .long x_t_weighed, .long x_t_weighedAsked]), (a_t_needs, e_I E 5 x_t_needs), (a_t_weights, e_I E 11 x_t_weights), (a_t_spots, e_I E 5 x_t_spots), (a_t_roots, e_I E 40 x_t_roots)]
def f_X1_leadTo_206 (G : Int32 → Int32 → Int64 → Int64 → Int32 → Int32 → Int32 → Int32 → Int32 → Int32 → Int32 → Int64 → Int64 → (Nat → Int32) → (Nat → Int32) → (Nat → Int32) → (Nat → Int32) → Option (Int32 × Int64 × Int64 × (Nat → Int32))) (p1 : Int32) (p2 : Int32) (p3 : Int32) (p4 : Int64) (p5 : Int64) (x_t_many : Int32) (x_t_places : Int32) (x_t_weightOfAll : Int32) (x_t_manyWeighed : Int32) (x_t_askedSpot : Int32) (x_t_askedCount : Int32) (x_t_weights : Nat → Int32) (x_t_spots : Nat → Int32) (x_t_roots : Nat → Int32)  (v8 : Int32) (v10 : Int32) (v11 : Int32) (v12 : Int32) (v13 : Int32) (m_t_ways : Int32) (m_t_weighed : Int64) (m_t_weighedAsked : Int64) (m_t_needs : Nat → Int32) : Option (Int32 × Int64 × Int64 × (Nat → Int32)) :=
  Option.bind (G (p2 + (1 : Int32)) (p3 * v10) (p4 * v11.toInt64) (p5 * v12.toInt64) x_t_many x_t_places x_t_weightOfAll x_t_manyWeighed x_t_askedSpot x_t_askedCount m_t_ways m_t_weighed m_t_weighedAsked m_t_needs x_t_weights x_t_spots x_t_roots) (fun r226 =>
  if v8 = 0 then
    some (r226.1, r226.2.1, r226.2.2.1, r226.2.2.2)
  else
    ck (inB p1 5) (
    some (r226.1, r226.2.1, r226.2.2.1, (upd r226.2.2.2 (ix p1) v13))))
def f_X1_leadTo_78 (G : Int32 → Int32 → Int64 → Int64 → Int32 → Int32 → Int32 → Int32 → Int32 → Int32 → Int32 → Int64 → Int64 → (Nat → Int32) → (Nat → Int32) → (Nat → Int32) → (Nat → Int32) → Option (Int32 × Int64 × Int64 × (Nat → Int32))) (p1 : Int32) (p2 : Int32) (p3 : Int32) (p4 : Int64) (p5 : Int64) (x_t_many : Int32) (x_t_places : Int32) (x_t_weightOfAll : Int32) (x_t_manyWeighed : Int32) (x_t_askedSpot : Int32) (x_t_askedCount : Int32) (x_t_weights : Nat → Int32) (x_t_spots : Nat → Int32) (x_t_roots : Nat → Int32)  : Nat → Int32 → Int32 → Int32 → Int32 → Int32 → Int32 → Int32 → Int64 → Int64 → (Nat → Int32) → Option (Int32 × Int64 × Int64 × (Nat → Int32))
  | 0, _, _, _, _, _, _, _, _, _, _ => none
  | n_ + 1, v8, v9, v10, v11, v12, v13, m_t_ways, m_t_weighed, m_t_weighedAsked, m_t_needs =>
    if (10 : Int32) < v13 then
      if v10 = 0 then
        some (m_t_ways, m_t_weighed, m_t_weighedAsked, m_t_needs)
      else
        if v8 = 0 then
          if v8 = 0 then
            f_X1_leadTo_206 G p1 p2 p3 p4 p5 x_t_many x_t_places x_t_weightOfAll x_t_manyWeighed x_t_askedSpot x_t_askedCount x_t_weights x_t_spots x_t_roots v8 v10 v11 v12 (-1 : Int32) m_t_ways m_t_weighed m_t_weighedAsked m_t_needs
          else
            ck (inB p2 5) (
            ck (inB p1 5) (
            f_X1_leadTo_206 G p1 p2 p3 p4 p5 x_t_many x_t_places x_t_weightOfAll x_t_manyWeighed x_t_askedSpot x_t_askedCount x_t_weights x_t_spots x_t_roots v8 v10 v11 v12 (-1 : Int32) m_t_ways m_t_weighed m_t_weighedAsked (upd m_t_needs (ix p1) (m_t_needs (ix p2)))))
        else
          ck (inB p1 5) (
          if v8 = 0 then
            f_X1_leadTo_206 G p1 p2 p3 p4 p5 x_t_many x_t_places x_t_weightOfAll x_t_manyWeighed x_t_askedSpot x_t_askedCount x_t_weights x_t_spots x_t_roots v8 v10 v11 v12 (m_t_needs (ix p1)) m_t_ways m_t_weighed m_t_weighedAsked m_t_needs
          else
            ck (inB p2 5) (
            f_X1_leadTo_206 G p1 p2 p3 p4 p5 x_t_many x_t_places x_t_weightOfAll x_t_manyWeighed x_t_askedSpot x_t_askedCount x_t_weights x_t_spots x_t_roots v8 v10 v11 v12 (m_t_needs (ix p1)) m_t_ways m_t_weighed m_t_weighedAsked (upd m_t_needs (ix p1) (m_t_needs (ix p2)))))
    else
      ck (inB v13 11) (
      if (x_t_weights (ix v13)) ≤ 0 then
        f_X1_leadTo_78 G p1 p2 p3 p4 p5 x_t_many x_t_places x_t_weightOfAll x_t_manyWeighed x_t_askedSpot x_t_askedCount x_t_weights x_t_spots x_t_roots n_ v8 v9 v10 v11 v12 (v13 + (1 : Int32)) m_t_ways m_t_weighed m_t_weighedAsked m_t_needs
      else
        ck (inB p2 5) (
        Option.bind (f_X1_rootBy (x_t_spots (ix p2)) v13 x_t_places x_t_roots) (fun r104 =>
        if r104 = v9 then
          if p2 = x_t_askedSpot then
            if v13 = x_t_askedCount then
              f_X1_leadTo_78 G p1 p2 p3 p4 p5 x_t_many x_t_places x_t_weightOfAll x_t_manyWeighed x_t_askedSpot x_t_askedCount x_t_weights x_t_spots x_t_roots n_ v8 v9 (v10 + (1 : Int32)) (v11 + (x_t_weights (ix v13))) (v12 + (x_t_weights (ix v13))) (v13 + (1 : Int32)) m_t_ways m_t_weighed m_t_weighedAsked m_t_needs
            else
              f_X1_leadTo_78 G p1 p2 p3 p4 p5 x_t_many x_t_places x_t_weightOfAll x_t_manyWeighed x_t_askedSpot x_t_askedCount x_t_weights x_t_spots x_t_roots n_ v8 v9 (v10 + (1 : Int32)) (v11 + (x_t_weights (ix v13))) (v12 + (0 : Int32)) (v13 + (1 : Int32)) m_t_ways m_t_weighed m_t_weighedAsked m_t_needs
          else
            f_X1_leadTo_78 G p1 p2 p3 p4 p5 x_t_many x_t_places x_t_weightOfAll x_t_manyWeighed x_t_askedSpot x_t_askedCount x_t_weights x_t_spots x_t_roots n_ v8 v9 (v10 + (1 : Int32)) (v11 + (x_t_weights (ix v13))) (v12 + (x_t_weights (ix v13))) (v13 + (1 : Int32)) m_t_ways m_t_weighed m_t_weighedAsked m_t_needs
        else
          f_X1_leadTo_78 G p1 p2 p3 p4 p5 x_t_many x_t_places x_t_weightOfAll x_t_manyWeighed x_t_askedSpot x_t_askedCount x_t_weights x_t_spots x_t_roots n_ v8 v9 v10 v11 v12 (v13 + (1 : Int32)) m_t_ways m_t_weighed m_t_weighedAsked m_t_needs)))
def f_X1_leadTo_46 (G : Int32 → Int32 → Int64 → Int64 → Int32 → Int32 → Int32 → Int32 → Int32 → Int32 → Int32 → Int64 → Int64 → (Nat → Int32) → (Nat → Int32) → (Nat → Int32) → (Nat → Int32) → Option (Int32 × Int64 × Int64 × (Nat → Int32))) (p1 : Int32) (p2 : Int32) (p3 : Int32) (p4 : Int64) (p5 : Int64) (x_t_many : Int32) (x_t_places : Int32) (x_t_weightOfAll : Int32) (x_t_manyWeighed : Int32) (x_t_askedSpot : Int32) (x_t_askedCount : Int32) (x_t_weights : Nat → Int32) (x_t_spots : Nat → Int32) (x_t_roots : Nat → Int32)  (v8 : Int32) (m_t_ways : Int32) (m_t_weighed : Int64) (m_t_weighedAsked : Int64) (m_t_needs : Nat → Int32) : Option (Int32 × Int64 × Int64 × (Nat → Int32)) :=
  if v8 = 0 then
    ck (inB p2 5) (
    f_X1_leadTo_78 G p1 p2 p3 p4 p5 x_t_many x_t_places x_t_weightOfAll x_t_manyWeighed x_t_askedSpot x_t_askedCount x_t_weights x_t_spots x_t_roots FU v8 (m_t_needs (ix p2)) (0 : Int32) (0 : Int32) (0 : Int32) (1 : Int32) m_t_ways m_t_weighed m_t_weighedAsked m_t_needs)
  else
    f_X1_leadTo_78 G p1 p2 p3 p4 p5 x_t_many x_t_places x_t_weightOfAll x_t_manyWeighed x_t_askedSpot x_t_askedCount x_t_weights x_t_spots x_t_roots FU v8 ((40 : Int32) + p1) (0 : Int32) (0 : Int32) (0 : Int32) (1 : Int32) m_t_ways m_t_weighed m_t_weighedAsked m_t_needs
def f_X1_leadTo_13 (G : Int32 → Int32 → Int64 → Int64 → Int32 → Int32 → Int32 → Int32 → Int32 → Int32 → Int32 → Int64 → Int64 → (Nat → Int32) → (Nat → Int32) → (Nat → Int32) → (Nat → Int32) → Option (Int32 × Int64 × Int64 × (Nat → Int32))) (p1 : Int32) (p2 : Int32) (p3 : Int32) (p4 : Int64) (p5 : Int64) (x_t_many : Int32) (x_t_places : Int32) (x_t_weightOfAll : Int32) (x_t_manyWeighed : Int32) (x_t_askedSpot : Int32) (x_t_askedCount : Int32) (x_t_weights : Nat → Int32) (x_t_spots : Nat → Int32) (x_t_roots : Nat → Int32)  (s0 : Int32) (m_t_ways : Int32) (m_t_weighed : Int64) (m_t_weighedAsked : Int64) (m_t_needs : Nat → Int32) : Option (Int32 × Int64 × Int64 × (Nat → Int32)) :=
  if s0 = 0 then
    f_X1_leadTo_46 G p1 p2 p3 p4 p5 x_t_many x_t_places x_t_weightOfAll x_t_manyWeighed x_t_askedSpot x_t_askedCount x_t_weights x_t_spots x_t_roots s0 m_t_ways m_t_weighed m_t_weighedAsked m_t_needs
  else
    ck (inB p1 5) (
    if (m_t_needs (ix p1)) = (-1 : Int32) then
      f_X1_leadTo_46 G p1 p2 p3 p4 p5 x_t_many x_t_places x_t_weightOfAll x_t_manyWeighed x_t_askedSpot x_t_askedCount x_t_weights x_t_spots x_t_roots s0 m_t_ways m_t_weighed m_t_weighedAsked m_t_needs
    else
      ck (inB p2 5) (
      if (m_t_needs (ix p1)) = (m_t_needs (ix p2)) then
        f_X1_leadTo_46 G p1 p2 p3 p4 p5 x_t_many x_t_places x_t_weightOfAll x_t_manyWeighed x_t_askedSpot x_t_askedCount x_t_weights x_t_spots x_t_roots s0 m_t_ways m_t_weighed m_t_weighedAsked m_t_needs
      else
        some (m_t_ways, m_t_weighed, m_t_weighedAsked, m_t_needs)))
def f_X1_leadTo (G : Int32 → Int32 → Int64 → Int64 → Int32 → Int32 → Int32 → Int32 → Int32 → Int32 → Int32 → Int64 → Int64 → (Nat → Int32) → (Nat → Int32) → (Nat → Int32) → (Nat → Int32) → Option (Int32 × Int64 × Int64 × (Nat → Int32))) (p1 : Int32) (p2 : Int32) (p3 : Int32) (p4 : Int64) (p5 : Int64) (x_t_many : Int32) (x_t_places : Int32) (x_t_weightOfAll : Int32) (x_t_manyWeighed : Int32) (x_t_askedSpot : Int32) (x_t_askedCount : Int32) (x_t_ways : Int32) (x_t_weighed : Int64) (x_t_weighedAsked : Int64) (x_t_needs : Nat → Int32) (x_t_weights : Nat → Int32) (x_t_spots : Nat → Int32) (x_t_roots : Nat → Int32) : Option (Int32 × Int64 × Int64 × (Nat → Int32)) :=
  if x_t_many ≤ p1 then
    f_X1_leadTo_13 G p1 p2 p3 p4 p5 x_t_many x_t_places x_t_weightOfAll x_t_manyWeighed x_t_askedSpot x_t_askedCount x_t_weights x_t_spots x_t_roots (0 : Int32) x_t_ways x_t_weighed x_t_weighedAsked x_t_needs
  else
    f_X1_leadTo_13 G p1 p2 p3 p4 p5 x_t_many x_t_places x_t_weightOfAll x_t_manyWeighed x_t_askedSpot x_t_askedCount x_t_weights x_t_spots x_t_roots (1 : Int32) x_t_ways x_t_weighed x_t_weighedAsked x_t_needs
set_option maxHeartbeats 4000000 in
set_option maxRecDepth 100000 in
theorem c_X1_leadTo (l : Launch) (E : EN) (a_t a_t_needs a_t_weights a_t_spots a_t_roots : Nat) (G : Int32 → Int32 → Int64 → Int64 → Int32 → Int32 → Int32 → Int32 → Int32 → Int32 → Int32 → Int64 → Int64 → (Nat → Int32) → (Nat → Int32) → (Nat → Int32) → (Nat → Int32) → Option (Int32 × Int64 × Int64 × (Nat → Int32))) (f0 k0 : Nat) (hG : ∀ (x_t_many : Int32) (x_t_places : Int32) (x_t_weightOfAll : Int32) (x_t_manyWeighed : Int32) (x_t_askedSpot : Int32) (x_t_askedCount : Int32) (x_t_ways : Int32) (x_t_weighed : Int64) (x_t_weighedAsked : Int64) (x_t_needs : Nat → Int32) (x_t_weights : Nat → Int32) (x_t_spots : Nat → Int32) (x_t_roots : Nat → Int32) (p1 : Int32) (p2 : Int32) (p3 : Int64) (p4 : Int64) (res : Int32 × Int64 × Int64 × (Nat → Int32)), G p1 p2 p3 p4 x_t_many x_t_places x_t_weightOfAll x_t_manyWeighed x_t_askedSpot x_t_askedCount x_t_ways x_t_weighed x_t_weighedAsked x_t_needs x_t_weights x_t_spots x_t_roots = some res → CtV l yX1_goOn cX1_goOn 8 f0 k0 E [.ref a_t, .int p1, .int p2, .long p3, .long p4] (wd_X1_goOn E a_t a_t_needs a_t_weights a_t_spots a_t_roots x_t_many x_t_places x_t_weightOfAll x_t_manyWeighed x_t_askedSpot x_t_askedCount x_t_ways x_t_weighed x_t_weighedAsked x_t_needs x_t_weights x_t_spots x_t_roots) (wd_X1_goOn E a_t a_t_needs a_t_weights a_t_spots a_t_roots x_t_many x_t_places x_t_weightOfAll x_t_manyWeighed x_t_askedSpot x_t_askedCount res.1 res.2.1 res.2.2.1 res.2.2.2 x_t_weights x_t_spots x_t_roots)) (x_t_many : Int32) (x_t_places : Int32) (x_t_weightOfAll : Int32) (x_t_manyWeighed : Int32) (x_t_askedSpot : Int32) (x_t_askedCount : Int32) (x_t_ways : Int32) (x_t_weighed : Int64) (x_t_weighedAsked : Int64) (x_t_needs : Nat → Int32) (x_t_weights : Nat → Int32) (x_t_spots : Nat → Int32) (x_t_roots : Nat → Int32) (p1 : Int32) (p2 : Int32) (p3 : Int32) (p4 : Int64) (p5 : Int64) (res : Int32 × Int64 × Int64 × (Nat → Int32)) (hf : f_X1_leadTo G p1 p2 p3 p4 p5 x_t_many x_t_places x_t_weightOfAll x_t_manyWeighed x_t_askedSpot x_t_askedCount x_t_ways x_t_weighed x_t_weighedAsked x_t_needs x_t_weights x_t_spots x_t_roots = some res) : CtV l yX1_leadTo cX1_leadTo 14 (f0 + 1) (k0 + 27) E [.ref a_t, .int p1, .int p2, .int p3, .long p4, .long p5] (wd_X1_leadTo E a_t a_t_needs a_t_weights a_t_spots a_t_roots x_t_many x_t_places x_t_weightOfAll x_t_manyWeighed x_t_askedSpot x_t_askedCount x_t_ways x_t_weighed x_t_weighedAsked x_t_needs x_t_weights x_t_spots x_t_roots) (wd_X1_leadTo E a_t a_t_needs a_t_weights a_t_spots a_t_roots x_t_many x_t_places x_t_weightOfAll x_t_manyWeighed x_t_askedSpot x_t_askedCount res.1 res.2.1 res.2.2.1 res.2.2.2 x_t_weights x_t_spots x_t_roots) := by
  refine CtV.of RX1 (by decide) rfl (Nat.le_of_ble_eq_true rfl) ?_
  intro p e s m below meth c A Q ls X hA hP hD hl fin
  have hx := X.1
  have hb := X.2.1
  have hl : lv_has ls 14 [(0, .ref a_t), (1, .int p1), (2, .int p2), (3, .int p3), (4, .long p4), (6, .long p5)] := hl
  have fin' : ∀ (fr0 : Int32) (fr1 : Int64) (fr2 : Int64) (fr3 : (Nat → Int32)), some (fr0, fr1, fr2, fr3) = some res → ∀ (pc : Nat) (ls : Array Slot) (H : Heap) (locs : List Loc), decode cX1_leadTo pc = .ok (.return_, 1) → va_P E.1 vwCl (wd_X1_leadTo E a_t a_t_needs a_t_weights a_t_spots a_t_roots x_t_many x_t_places x_t_weightOfAll x_t_manyWeighed x_t_askedSpot x_t_askedCount fr0 fr1 fr2 fr3 x_t_weights x_t_spots x_t_roots) H → va_D A (wd_X1_leadTo E a_t a_t_needs a_t_weights a_t_spots a_t_roots x_t_many x_t_places x_t_weightOfAll x_t_manyWeighed x_t_askedSpot x_t_askedCount fr0 fr1 fr2 fr3 x_t_weights x_t_spots x_t_roots) → va_S A s.heap H locs → W p l e (rmm (f0 + 1) (k0 + 27)) s m ([.ref a_t, .int p1, .int p2, .int p3, .long p4, .long p5] : List Value).toArray below meth c H locs 0 0 Q (F0 m pc ls []) := by
    intro fr0 fr1 fr2 fr3 he
    cases he
    exact fin
  have L206 : ∀ (v8 : Int32) (v10 : Int32) (v11 : Int32) (v12 : Int32) (v13 : Int32) (m_t_ways : Int32) (m_t_weighed : Int64) (m_t_weighedAsked : Int64) (m_t_needs : Nat → Int32), f_X1_leadTo_206 G p1 p2 p3 p4 p5 x_t_many x_t_places x_t_weightOfAll x_t_manyWeighed x_t_askedSpot x_t_askedCount x_t_weights x_t_spots x_t_roots v8 v10 v11 v12 v13 m_t_ways m_t_weighed m_t_weighedAsked m_t_needs = some res → ∀ (H : Heap) (locs : List Loc) (ls : Array Slot), va_P E.1 vwCl (wd_X1_leadTo E a_t a_t_needs a_t_weights a_t_spots a_t_roots x_t_many x_t_places x_t_weightOfAll x_t_manyWeighed x_t_askedSpot x_t_askedCount m_t_ways m_t_weighed m_t_weighedAsked m_t_needs x_t_weights x_t_spots x_t_roots) H → va_D A (wd_X1_leadTo E a_t a_t_needs a_t_weights a_t_spots a_t_roots x_t_many x_t_places x_t_weightOfAll x_t_manyWeighed x_t_askedSpot x_t_askedCount m_t_ways m_t_weighed m_t_weighedAsked m_t_needs x_t_weights x_t_spots x_t_roots) → va_S A s.heap H locs → lv_has ls 14 [(0, .ref a_t), (1, .int p1), (2, .int p2), (3, .int p3), (4, .long p4), (6, .long p5), (8, .int v8), (10, .int v10), (11, .int v11), (12, .int v12), (13, .int v13)] → W p l e (rmm (f0 + 1) (k0 + 27)) s m ([.ref a_t, .int p1, .int p2, .int p3, .long p4, .long p5] : List Value).toArray below meth c H locs 0 0 Q (F0 m 206 ls []) := by
    intro v8 v10 v11 v12 v13 m_t_ways m_t_weighed m_t_weighedAsked m_t_needs hf H locs ls hP hD hS hl
    rw [f_X1_leadTo_206] at hf
    refine lv_aload_n hx hb dX1_leadTo_206 rfl (lv_at hl 0 rfl) ?_
    refine lv_iload_n hx hb dX1_leadTo_207 rfl (lv_at hl 2 rfl) ?_
    refine lv_iconst (v := (1 : Int32)) hx hb dX1_leadTo_208 (by decide) ?_
    refine lv_iadd hx hb dX1_leadTo_209 ?_
    refine lv_iload_n hx hb dX1_leadTo_210 rfl (lv_at hl 3 rfl) ?_
    refine lv_iload hx hb dX1_leadTo_211 (lv_at hl 7 rfl) ?_
    refine lv_imul hx hb dX1_leadTo_213 ?_
    refine lv_lload hx hb dX1_leadTo_214 (lv_at hl 4 rfl) ?_
    refine lv_iload hx hb dX1_leadTo_216 (lv_at hl 8 rfl) ?_
    refine lv_i2l (v := v11.toInt64) hx hb dX1_leadTo_218 rfl ?_
    refine lv_lmul hx hb dX1_leadTo_219 ?_
    refine lv_lload hx hb dX1_leadTo_220 (lv_at hl 5 rfl) ?_
    refine lv_iload hx hb dX1_leadTo_222 (lv_at hl 9 rfl) ?_
    refine lv_i2l (v := v12.toInt64) hx hb dX1_leadTo_224 rfl ?_
    refine lv_lmul hx hb dX1_leadTo_225 ?_
    obtain ⟨r226, hc226, hf⟩ := bd_some hf
    refine cV_V X hA hP hD hS hl.1 (hG x_t_many x_t_places x_t_weightOfAll x_t_manyWeighed x_t_askedSpot x_t_askedCount m_t_ways m_t_weighed m_t_weighedAsked m_t_needs x_t_weights x_t_spots x_t_roots (p2 + (1 : Int32)) (p3 * v10) (p4 * v11.toInt64) (p5 * v12.toInt64) r226 hc226) 4 k_585 mw_X1_goOn hd_X1_goOn ⟨by show f0 + 1 ≤ (f0 + 1); omega, by show 8 + (8 + 11) + k0 ≤ (k0 + 27); omega⟩ [0, 1, 2, 3, 4] [] [0, 1, 2, 3, 4] rfl rfl (wr := []) rfl rfl rfl 1 0 rfl rfl rfl rfl rfl (Nat.le_of_ble_eq_true rfl) rfl (ws' := (wd_X1_leadTo E a_t a_t_needs a_t_weights a_t_spots a_t_roots x_t_many x_t_places x_t_weightOfAll x_t_manyWeighed x_t_askedSpot x_t_askedCount r226.1 r226.2.1 r226.2.2.1 r226.2.2.2 x_t_weights x_t_spots x_t_roots)) rfl ⟨Nat.le_of_ble_eq_true rfl, Nat.le_of_ble_eq_true rfl⟩ dX1_leadTo_226 (fun H locs hP hD hS => ?_)
    refine lv_iload hx hb dX1_leadTo_229 (lv_at hl 6 rfl) ?_
    refine lv_if_eq (tgt := 242) hx hb dX1_leadTo_231 (by decide) (fun c_231 => ?_) (fun c_231 => ?_)
    · have hf := if_t c_231 hf
      exact fin' _ _ _ _ hf 242 ls H locs dX1_leadTo_242 hP hD hS
    · have hf := if_f c_231 hf
      refine lv_aload_n hx hb dX1_leadTo_234 rfl (lv_at hl 0 rfl) ?_
      refine gf_X1_18 X hP 0 rfl rfl dX1_leadTo_235 ?_
      refine lv_iload_n hx hb dX1_leadTo_238 rfl (lv_at hl 1 rfl) ?_
      refine lv_iload hx hb dX1_leadTo_239 (lv_at hl 10 rfl) ?_
      obtain ⟨hi241, hf⟩ := ck_some hf
      refine r_iast X hP hD hS 1 rfl hi241 (ws' := (wd_X1_leadTo E a_t a_t_needs a_t_weights a_t_spots a_t_roots x_t_many x_t_places x_t_weightOfAll x_t_manyWeighed x_t_askedSpot x_t_askedCount r226.1 r226.2.1 r226.2.2.1 (upd r226.2.2.2 (ix p1) v13) x_t_weights x_t_spots x_t_roots)) rfl dX1_leadTo_241 (fun H locs hP hD hS => ?_)
      exact fin' _ _ _ _ hf 242 ls H locs dX1_leadTo_242 hP hD hS
  have L78 : ∀ (n78 : Nat) (v8 : Int32) (v9 : Int32) (v10 : Int32) (v11 : Int32) (v12 : Int32) (v13 : Int32) (m_t_ways : Int32) (m_t_weighed : Int64) (m_t_weighedAsked : Int64) (m_t_needs : Nat → Int32), f_X1_leadTo_78 G p1 p2 p3 p4 p5 x_t_many x_t_places x_t_weightOfAll x_t_manyWeighed x_t_askedSpot x_t_askedCount x_t_weights x_t_spots x_t_roots n78 v8 v9 v10 v11 v12 v13 m_t_ways m_t_weighed m_t_weighedAsked m_t_needs = some res → ∀ (H : Heap) (locs : List Loc) (ls : Array Slot), va_P E.1 vwCl (wd_X1_leadTo E a_t a_t_needs a_t_weights a_t_spots a_t_roots x_t_many x_t_places x_t_weightOfAll x_t_manyWeighed x_t_askedSpot x_t_askedCount m_t_ways m_t_weighed m_t_weighedAsked m_t_needs x_t_weights x_t_spots x_t_roots) H → va_D A (wd_X1_leadTo E a_t a_t_needs a_t_weights a_t_spots a_t_roots x_t_many x_t_places x_t_weightOfAll x_t_manyWeighed x_t_askedSpot x_t_askedCount m_t_ways m_t_weighed m_t_weighedAsked m_t_needs x_t_weights x_t_spots x_t_roots) → va_S A s.heap H locs → lv_has ls 14 [(0, .ref a_t), (1, .int p1), (2, .int p2), (3, .int p3), (4, .long p4), (6, .long p5), (8, .int v8), (9, .int v9), (10, .int v10), (11, .int v11), (12, .int v12), (13, .int v13)] → W p l e (rmm (f0 + 1) (k0 + 27)) s m ([.ref a_t, .int p1, .int p2, .int p3, .long p4, .long p5] : List Value).toArray below meth c H locs 0 0 Q (F0 m 78 ls []) := by
    intro n78
    induction n78 with
    | zero => intro v8 v9 v10 v11 v12 v13 m_t_ways m_t_weighed m_t_weighedAsked m_t_needs hf; rw [f_X1_leadTo_78] at hf; cases hf
    | succ n78 ih78 =>
      intro v8 v9 v10 v11 v12 v13 m_t_ways m_t_weighed m_t_weighedAsked m_t_needs hf H locs ls hP hD hS hl
      rw [f_X1_leadTo_78] at hf
      refine lv_iload hx hb dX1_leadTo_78 (lv_at hl 11 rfl) ?_
      refine lv_bipush (v := (10 : Int32)) hx hb dX1_leadTo_80 (by decide) ?_
      refine lv_icmp_gt (tgt := 166) hx hb dX1_leadTo_82 (by decide) (fun c_82 => ?_) (fun c_82 => ?_)
      · have hf := if_t c_82 hf
        refine lv_iload hx hb dX1_leadTo_166 (lv_at hl 8 rfl) ?_
        refine lv_if_ne (tgt := 172) hx hb dX1_leadTo_168 (by decide) (fun c_168 => ?_) (fun c_168 => ?_)
        · have hf := if_f c_168 hf
          refine lv_iload hx hb dX1_leadTo_172 (lv_at hl 6 rfl) ?_
          refine lv_if_eq (tgt := 186) hx hb dX1_leadTo_174 (by decide) (fun c_174 => ?_) (fun c_174 => ?_)
          · have hf := if_t c_174 hf
            refine lv_iconst (v := (-1 : Int32)) hx hb dX1_leadTo_186 (by decide) ?_
            refine lv_istore (lv' := [(13, .int (-1 : Int32)), (0, .ref a_t), (1, .int p1), (2, .int p2), (3, .int p3), (4, .long p4), (6, .long p5), (8, .int v8), (9, .int v9), (10, .int v10), (11, .int v11), (12, .int v12)]) hx hb dX1_leadTo_187 hl (by decide) rfl (fun ls hl => ?_)
            refine lv_iload hx hb dX1_leadTo_189 (lv_at hl 7 rfl) ?_
            refine lv_if_eq (tgt := 206) hx hb dX1_leadTo_191 (by decide) (fun c_191 => ?_) (fun c_191 => ?_)
            · have hf := if_t c_191 hf
              exact L206 v8 v10 v11 v12 (-1 : Int32) m_t_ways m_t_weighed m_t_weighedAsked m_t_needs hf H locs ls hP hD hS (lv_sub hl [1, 2, 3, 4, 5, 6, 7, 9, 10, 11, 0] rfl)
            · have hf := if_f c_191 hf
              refine lv_aload_n hx hb dX1_leadTo_194 rfl (lv_at hl 1 rfl) ?_
              refine gf_X1_18 X hP 0 rfl rfl dX1_leadTo_195 ?_
              refine lv_iload_n hx hb dX1_leadTo_198 rfl (lv_at hl 2 rfl) ?_
              refine lv_aload_n hx hb dX1_leadTo_199 rfl (lv_at hl 1 rfl) ?_
              refine gf_X1_18 X hP 0 rfl rfl dX1_leadTo_200 ?_
              refine lv_iload_n hx hb dX1_leadTo_203 rfl (lv_at hl 3 rfl) ?_
              obtain ⟨hi204, hf⟩ := ck_some hf
              refine r_iald X hP 1 rfl hi204 dX1_leadTo_204 ?_
              obtain ⟨hi205, hf⟩ := ck_some hf
              refine r_iast X hP hD hS 1 rfl hi205 (ws' := (wd_X1_leadTo E a_t a_t_needs a_t_weights a_t_spots a_t_roots x_t_many x_t_places x_t_weightOfAll x_t_manyWeighed x_t_askedSpot x_t_askedCount m_t_ways m_t_weighed m_t_weighedAsked (upd m_t_needs (ix p1) (m_t_needs (ix p2))) x_t_weights x_t_spots x_t_roots)) rfl dX1_leadTo_205 (fun H locs hP hD hS => ?_)
              exact L206 v8 v10 v11 v12 (-1 : Int32) m_t_ways m_t_weighed m_t_weighedAsked (upd m_t_needs (ix p1) (m_t_needs (ix p2))) hf H locs ls hP hD hS (lv_sub hl [1, 2, 3, 4, 5, 6, 7, 9, 10, 11, 0] rfl)
          · have hf := if_f c_174 hf
            refine lv_aload_n hx hb dX1_leadTo_177 rfl (lv_at hl 0 rfl) ?_
            refine gf_X1_18 X hP 0 rfl rfl dX1_leadTo_178 ?_
            refine lv_iload_n hx hb dX1_leadTo_181 rfl (lv_at hl 1 rfl) ?_
            obtain ⟨hi182, hf⟩ := ck_some hf
            refine r_iald X hP 1 rfl hi182 dX1_leadTo_182 ?_
            refine lv_goto (tgt := 187) hx hb dX1_leadTo_183 (by decide) ?_
            refine lv_istore (lv' := [(13, .int (m_t_needs (ix p1))), (0, .ref a_t), (1, .int p1), (2, .int p2), (3, .int p3), (4, .long p4), (6, .long p5), (8, .int v8), (9, .int v9), (10, .int v10), (11, .int v11), (12, .int v12)]) hx hb dX1_leadTo_187 hl (by decide) rfl (fun ls hl => ?_)
            refine lv_iload hx hb dX1_leadTo_189 (lv_at hl 7 rfl) ?_
            refine lv_if_eq (tgt := 206) hx hb dX1_leadTo_191 (by decide) (fun c_191 => ?_) (fun c_191 => ?_)
            · have hf := if_t c_191 hf
              exact L206 v8 v10 v11 v12 (m_t_needs (ix p1)) m_t_ways m_t_weighed m_t_weighedAsked m_t_needs hf H locs ls hP hD hS (lv_sub hl [1, 2, 3, 4, 5, 6, 7, 9, 10, 11, 0] rfl)
            · have hf := if_f c_191 hf
              refine lv_aload_n hx hb dX1_leadTo_194 rfl (lv_at hl 1 rfl) ?_
              refine gf_X1_18 X hP 0 rfl rfl dX1_leadTo_195 ?_
              refine lv_iload_n hx hb dX1_leadTo_198 rfl (lv_at hl 2 rfl) ?_
              refine lv_aload_n hx hb dX1_leadTo_199 rfl (lv_at hl 1 rfl) ?_
              refine gf_X1_18 X hP 0 rfl rfl dX1_leadTo_200 ?_
              refine lv_iload_n hx hb dX1_leadTo_203 rfl (lv_at hl 3 rfl) ?_
              obtain ⟨hi204, hf⟩ := ck_some hf
              refine r_iald X hP 1 rfl hi204 dX1_leadTo_204 ?_
              refine r_iast X hP hD hS 1 rfl hi182 (ws' := (wd_X1_leadTo E a_t a_t_needs a_t_weights a_t_spots a_t_roots x_t_many x_t_places x_t_weightOfAll x_t_manyWeighed x_t_askedSpot x_t_askedCount m_t_ways m_t_weighed m_t_weighedAsked (upd m_t_needs (ix p1) (m_t_needs (ix p2))) x_t_weights x_t_spots x_t_roots)) rfl dX1_leadTo_205 (fun H locs hP hD hS => ?_)
              exact L206 v8 v10 v11 v12 (m_t_needs (ix p1)) m_t_ways m_t_weighed m_t_weighedAsked (upd m_t_needs (ix p1) (m_t_needs (ix p2))) hf H locs ls hP hD hS (lv_sub hl [1, 2, 3, 4, 5, 6, 7, 9, 10, 11, 0] rfl)
        · have hf := if_t c_168 hf
          exact fin' _ _ _ _ hf 171 ls H locs dX1_leadTo_171 hP hD hS
      · have hf := if_f c_82 hf
        refine lv_aload_n hx hb dX1_leadTo_85 rfl (lv_at hl 0 rfl) ?_
        refine gf_X1_21 X hP 0 rfl rfl dX1_leadTo_86 ?_
        refine lv_iload hx hb dX1_leadTo_89 (lv_at hl 11 rfl) ?_
        obtain ⟨hi91, hf⟩ := ck_some hf
        refine r_iald X hP 2 rfl hi91 dX1_leadTo_91 ?_
        refine lv_if_le (tgt := 160) hx hb dX1_leadTo_92 (by decide) (fun c_92 => ?_) (fun c_92 => ?_)
        · have hf := if_t c_92 hf
          refine lv_iinc (v := (v13 + (1 : Int32))) (lv' := [(13, .int (v13 + (1 : Int32))), (0, .ref a_t), (1, .int p1), (2, .int p2), (3, .int p3), (4, .long p4), (6, .long p5), (8, .int v8), (9, .int v9), (10, .int v10), (11, .int v11), (12, .int v12)]) hx hb dX1_leadTo_160 hl (k := 11) rfl rfl (by decide) rfl (fun ls hl => ?_)
          refine lv_goto (tgt := 78) hx hb dX1_leadTo_163 (by decide) ?_
          exact ih78 v8 v9 v10 v11 v12 (v13 + (1 : Int32)) m_t_ways m_t_weighed m_t_weighedAsked m_t_needs hf H locs ls hP hD hS (lv_sub hl [1, 2, 3, 4, 5, 6, 7, 8, 9, 10, 11, 0] rfl)
        · have hf := if_f c_92 hf
          refine lv_aload_n hx hb dX1_leadTo_95 rfl (lv_at hl 0 rfl) ?_
          refine lv_aload_n hx hb dX1_leadTo_96 rfl (lv_at hl 0 rfl) ?_
          refine gf_X1_15 X hP 0 rfl rfl dX1_leadTo_97 ?_
          refine lv_iload_n hx hb dX1_leadTo_100 rfl (lv_at hl 2 rfl) ?_
          obtain ⟨hi101, hf⟩ := ck_some hf
          refine r_iald X hP 3 rfl hi101 dX1_leadTo_101 ?_
          refine lv_iload hx hb dX1_leadTo_102 (lv_at hl 11 rfl) ?_
          obtain ⟨r104, hc104, hf⟩ := bd_some hf
          refine cV_I X hA hP hD hS hl.1 (c_X1_rootBy l E a_t a_t_roots (.ref a_t_spots) (.ref a_t_needs) (.ref a_t_weights) x_t_many x_t_places x_t_weightOfAll x_t_manyWeighed x_t_askedSpot x_t_askedCount m_t_ways m_t_weighed m_t_weighedAsked x_t_roots (x_t_spots (ix p2)) v13 r104 hc104) 2 k_577 mw_X1_rootBy hd_X1_rootBy ⟨by show 0 + 1 ≤ (f0 + 1); omega, by show 8 + (4 + 11) + 0 ≤ (k0 + 27); omega⟩ [0, 4] [1, 2, 3] [3, 0, 1, 2, 4] rfl rfl (wr := [1, 2, 3].filterMap (fun i => (wd_X1_leadTo E a_t a_t_needs a_t_weights a_t_spots a_t_roots x_t_many x_t_places x_t_weightOfAll x_t_manyWeighed x_t_askedSpot x_t_askedCount m_t_ways m_t_weighed m_t_weighedAsked m_t_needs x_t_weights x_t_spots x_t_roots)[i]?)) rfl rfl rfl 1 0 rfl rfl rfl rfl rfl (Nat.le_of_ble_eq_true rfl) rfl (ws' := (wd_X1_leadTo E a_t a_t_needs a_t_weights a_t_spots a_t_roots x_t_many x_t_places x_t_weightOfAll x_t_manyWeighed x_t_askedSpot x_t_askedCount m_t_ways m_t_weighed m_t_weighedAsked m_t_needs x_t_weights x_t_spots x_t_roots)) rfl ⟨Nat.le_of_ble_eq_true rfl, Nat.le_of_ble_eq_true rfl⟩ dX1_leadTo_104 (fun H locs hP hD hS => ?_)
          refine lv_iload hx hb dX1_leadTo_107 (lv_at hl 7 rfl) ?_
          refine lv_icmp_ne (tgt := 160) hx hb dX1_leadTo_109 (by decide) (fun c_109 => ?_) (fun c_109 => ?_)
          · have hf := if_f c_109 hf
            refine lv_iinc (v := (v13 + (1 : Int32))) (lv' := [(13, .int (v13 + (1 : Int32))), (0, .ref a_t), (1, .int p1), (2, .int p2), (3, .int p3), (4, .long p4), (6, .long p5), (8, .int v8), (9, .int v9), (10, .int v10), (11, .int v11), (12, .int v12)]) hx hb dX1_leadTo_160 hl (k := 11) rfl rfl (by decide) rfl (fun ls hl => ?_)
            refine lv_goto (tgt := 78) hx hb dX1_leadTo_163 (by decide) ?_
            exact ih78 v8 v9 v10 v11 v12 (v13 + (1 : Int32)) m_t_ways m_t_weighed m_t_weighedAsked m_t_needs hf H locs ls hP hD hS (lv_sub hl [1, 2, 3, 4, 5, 6, 7, 8, 9, 10, 11, 0] rfl)
          · have hf := if_t c_109 hf
            refine lv_iinc (v := (v10 + (1 : Int32))) (lv' := [(10, .int (v10 + (1 : Int32))), (0, .ref a_t), (1, .int p1), (2, .int p2), (3, .int p3), (4, .long p4), (6, .long p5), (8, .int v8), (9, .int v9), (11, .int v11), (12, .int v12), (13, .int v13)]) hx hb dX1_leadTo_112 hl (k := 8) rfl rfl (by decide) rfl (fun ls hl => ?_)
            refine lv_iload hx hb dX1_leadTo_115 (lv_at hl 9 rfl) ?_
            refine lv_aload_n hx hb dX1_leadTo_117 rfl (lv_at hl 1 rfl) ?_
            refine gf_X1_21 X hP 0 rfl rfl dX1_leadTo_118 ?_
            refine lv_iload hx hb dX1_leadTo_121 (lv_at hl 11 rfl) ?_
            refine r_iald X hP 2 rfl hi91 dX1_leadTo_123 ?_
            refine lv_iadd hx hb dX1_leadTo_124 ?_
            refine lv_istore (lv' := [(11, .int (v11 + (x_t_weights (ix v13)))), (10, .int (v10 + (1 : Int32))), (0, .ref a_t), (1, .int p1), (2, .int p2), (3, .int p3), (4, .long p4), (6, .long p5), (8, .int v8), (9, .int v9), (12, .int v12), (13, .int v13)]) hx hb dX1_leadTo_125 hl (by decide) rfl (fun ls hl => ?_)
            refine lv_iload hx hb dX1_leadTo_127 (lv_at hl 10 rfl) ?_
            refine lv_iload_n hx hb dX1_leadTo_129 rfl (lv_at hl 4 rfl) ?_
            refine lv_aload_n hx hb dX1_leadTo_130 rfl (lv_at hl 2 rfl) ?_
            refine gf_X1_49 X hP 0 rfl rfl dX1_leadTo_131 ?_
            refine lv_icmp_ne (tgt := 146) hx hb dX1_leadTo_134 (by decide) (fun c_134 => ?_) (fun c_134 => ?_)
            · have hf := if_f c_134 hf
              refine lv_aload_n hx hb dX1_leadTo_146 rfl (lv_at hl 2 rfl) ?_
              refine gf_X1_21 X hP 0 rfl rfl dX1_leadTo_147 ?_
              refine lv_iload hx hb dX1_leadTo_150 (lv_at hl 11 rfl) ?_
              refine r_iald X hP 2 rfl hi91 dX1_leadTo_152 ?_
              refine lv_goto (tgt := 157) hx hb dX1_leadTo_153 (by decide) ?_
              refine lv_iadd hx hb dX1_leadTo_157 ?_
              refine lv_istore (lv' := [(12, .int (v12 + (x_t_weights (ix v13)))), (11, .int (v11 + (x_t_weights (ix v13)))), (10, .int (v10 + (1 : Int32))), (0, .ref a_t), (1, .int p1), (2, .int p2), (3, .int p3), (4, .long p4), (6, .long p5), (8, .int v8), (9, .int v9), (13, .int v13)]) hx hb dX1_leadTo_158 hl (by decide) rfl (fun ls hl => ?_)
              refine lv_iinc (v := (v13 + (1 : Int32))) (lv' := [(13, .int (v13 + (1 : Int32))), (12, .int (v12 + (x_t_weights (ix v13)))), (11, .int (v11 + (x_t_weights (ix v13)))), (10, .int (v10 + (1 : Int32))), (0, .ref a_t), (1, .int p1), (2, .int p2), (3, .int p3), (4, .long p4), (6, .long p5), (8, .int v8), (9, .int v9)]) hx hb dX1_leadTo_160 hl (k := 11) rfl rfl (by decide) rfl (fun ls hl => ?_)
              refine lv_goto (tgt := 78) hx hb dX1_leadTo_163 (by decide) ?_
              exact ih78 v8 v9 (v10 + (1 : Int32)) (v11 + (x_t_weights (ix v13))) (v12 + (x_t_weights (ix v13))) (v13 + (1 : Int32)) m_t_ways m_t_weighed m_t_weighedAsked m_t_needs hf H locs ls hP hD hS (lv_sub hl [4, 5, 6, 7, 8, 9, 10, 11, 3, 2, 1, 0] rfl)
            · have hf := if_t c_134 hf
              refine lv_iload hx hb dX1_leadTo_137 (lv_at hl 11 rfl) ?_
              refine lv_aload_n hx hb dX1_leadTo_139 rfl (lv_at hl 2 rfl) ?_
              refine gf_X1_52 X hP 0 rfl rfl dX1_leadTo_140 ?_
              refine lv_icmp_ne (tgt := 156) hx hb dX1_leadTo_143 (by decide) (fun c_143 => ?_) (fun c_143 => ?_)
              · have hf := if_f c_143 hf
                refine lv_iconst (v := (0 : Int32)) hx hb dX1_leadTo_156 (by decide) ?_
                refine lv_iadd hx hb dX1_leadTo_157 ?_
                refine lv_istore (lv' := [(12, .int (v12 + (0 : Int32))), (11, .int (v11 + (x_t_weights (ix v13)))), (10, .int (v10 + (1 : Int32))), (0, .ref a_t), (1, .int p1), (2, .int p2), (3, .int p3), (4, .long p4), (6, .long p5), (8, .int v8), (9, .int v9), (13, .int v13)]) hx hb dX1_leadTo_158 hl (by decide) rfl (fun ls hl => ?_)
                refine lv_iinc (v := (v13 + (1 : Int32))) (lv' := [(13, .int (v13 + (1 : Int32))), (12, .int (v12 + (0 : Int32))), (11, .int (v11 + (x_t_weights (ix v13)))), (10, .int (v10 + (1 : Int32))), (0, .ref a_t), (1, .int p1), (2, .int p2), (3, .int p3), (4, .long p4), (6, .long p5), (8, .int v8), (9, .int v9)]) hx hb dX1_leadTo_160 hl (k := 11) rfl rfl (by decide) rfl (fun ls hl => ?_)
                refine lv_goto (tgt := 78) hx hb dX1_leadTo_163 (by decide) ?_
                exact ih78 v8 v9 (v10 + (1 : Int32)) (v11 + (x_t_weights (ix v13))) (v12 + (0 : Int32)) (v13 + (1 : Int32)) m_t_ways m_t_weighed m_t_weighedAsked m_t_needs hf H locs ls hP hD hS (lv_sub hl [4, 5, 6, 7, 8, 9, 10, 11, 3, 2, 1, 0] rfl)
              · have hf := if_t c_143 hf
                refine lv_aload_n hx hb dX1_leadTo_146 rfl (lv_at hl 2 rfl) ?_
                refine gf_X1_21 X hP 0 rfl rfl dX1_leadTo_147 ?_
                refine lv_iload hx hb dX1_leadTo_150 (lv_at hl 11 rfl) ?_
                refine r_iald X hP 2 rfl hi91 dX1_leadTo_152 ?_
                refine lv_goto (tgt := 157) hx hb dX1_leadTo_153 (by decide) ?_
                refine lv_iadd hx hb dX1_leadTo_157 ?_
                refine lv_istore (lv' := [(12, .int (v12 + (x_t_weights (ix v13)))), (11, .int (v11 + (x_t_weights (ix v13)))), (10, .int (v10 + (1 : Int32))), (0, .ref a_t), (1, .int p1), (2, .int p2), (3, .int p3), (4, .long p4), (6, .long p5), (8, .int v8), (9, .int v9), (13, .int v13)]) hx hb dX1_leadTo_158 hl (by decide) rfl (fun ls hl => ?_)
                refine lv_iinc (v := (v13 + (1 : Int32))) (lv' := [(13, .int (v13 + (1 : Int32))), (12, .int (v12 + (x_t_weights (ix v13)))), (11, .int (v11 + (x_t_weights (ix v13)))), (10, .int (v10 + (1 : Int32))), (0, .ref a_t), (1, .int p1), (2, .int p2), (3, .int p3), (4, .long p4), (6, .long p5), (8, .int v8), (9, .int v9)]) hx hb dX1_leadTo_160 hl (k := 11) rfl rfl (by decide) rfl (fun ls hl => ?_)
                refine lv_goto (tgt := 78) hx hb dX1_leadTo_163 (by decide) ?_
                exact ih78 v8 v9 (v10 + (1 : Int32)) (v11 + (x_t_weights (ix v13))) (v12 + (x_t_weights (ix v13))) (v13 + (1 : Int32)) m_t_ways m_t_weighed m_t_weighedAsked m_t_needs hf H locs ls hP hD hS (lv_sub hl [4, 5, 6, 7, 8, 9, 10, 11, 3, 2, 1, 0] rfl)
  have L46 : ∀ (v8 : Int32) (m_t_ways : Int32) (m_t_weighed : Int64) (m_t_weighedAsked : Int64) (m_t_needs : Nat → Int32), f_X1_leadTo_46 G p1 p2 p3 p4 p5 x_t_many x_t_places x_t_weightOfAll x_t_manyWeighed x_t_askedSpot x_t_askedCount x_t_weights x_t_spots x_t_roots v8 m_t_ways m_t_weighed m_t_weighedAsked m_t_needs = some res → ∀ (H : Heap) (locs : List Loc) (ls : Array Slot), va_P E.1 vwCl (wd_X1_leadTo E a_t a_t_needs a_t_weights a_t_spots a_t_roots x_t_many x_t_places x_t_weightOfAll x_t_manyWeighed x_t_askedSpot x_t_askedCount m_t_ways m_t_weighed m_t_weighedAsked m_t_needs x_t_weights x_t_spots x_t_roots) H → va_D A (wd_X1_leadTo E a_t a_t_needs a_t_weights a_t_spots a_t_roots x_t_many x_t_places x_t_weightOfAll x_t_manyWeighed x_t_askedSpot x_t_askedCount m_t_ways m_t_weighed m_t_weighedAsked m_t_needs x_t_weights x_t_spots x_t_roots) → va_S A s.heap H locs → lv_has ls 14 [(0, .ref a_t), (1, .int p1), (2, .int p2), (3, .int p3), (4, .long p4), (6, .long p5), (8, .int v8)] → W p l e (rmm (f0 + 1) (k0 + 27)) s m ([.ref a_t, .int p1, .int p2, .int p3, .long p4, .long p5] : List Value).toArray below meth c H locs 0 0 Q (F0 m 46 ls []) := by
    intro v8 m_t_ways m_t_weighed m_t_weighedAsked m_t_needs hf H locs ls hP hD hS hl
    rw [f_X1_leadTo_46] at hf
    refine lv_iload hx hb dX1_leadTo_46 (lv_at hl 6 rfl) ?_
    refine lv_if_eq (tgt := 58) hx hb dX1_leadTo_48 (by decide) (fun c_48 => ?_) (fun c_48 => ?_)
    · have hf := if_t c_48 hf
      refine lv_aload_n hx hb dX1_leadTo_58 rfl (lv_at hl 0 rfl) ?_
      refine gf_X1_18 X hP 0 rfl rfl dX1_leadTo_59 ?_
      refine lv_iload_n hx hb dX1_leadTo_62 rfl (lv_at hl 2 rfl) ?_
      obtain ⟨hi63, hf⟩ := ck_some hf
      refine r_iald X hP 1 rfl hi63 dX1_leadTo_63 ?_
      refine lv_istore (lv' := [(9, .int (m_t_needs (ix p2))), (0, .ref a_t), (1, .int p1), (2, .int p2), (3, .int p3), (4, .long p4), (6, .long p5), (8, .int v8)]) hx hb dX1_leadTo_64 hl (by decide) rfl (fun ls hl => ?_)
      refine lv_iconst (v := (0 : Int32)) hx hb dX1_leadTo_66 (by decide) ?_
      refine lv_istore (lv' := [(10, .int (0 : Int32)), (9, .int (m_t_needs (ix p2))), (0, .ref a_t), (1, .int p1), (2, .int p2), (3, .int p3), (4, .long p4), (6, .long p5), (8, .int v8)]) hx hb dX1_leadTo_67 hl (by decide) rfl (fun ls hl => ?_)
      refine lv_iconst (v := (0 : Int32)) hx hb dX1_leadTo_69 (by decide) ?_
      refine lv_istore (lv' := [(11, .int (0 : Int32)), (10, .int (0 : Int32)), (9, .int (m_t_needs (ix p2))), (0, .ref a_t), (1, .int p1), (2, .int p2), (3, .int p3), (4, .long p4), (6, .long p5), (8, .int v8)]) hx hb dX1_leadTo_70 hl (by decide) rfl (fun ls hl => ?_)
      refine lv_iconst (v := (0 : Int32)) hx hb dX1_leadTo_72 (by decide) ?_
      refine lv_istore (lv' := [(12, .int (0 : Int32)), (11, .int (0 : Int32)), (10, .int (0 : Int32)), (9, .int (m_t_needs (ix p2))), (0, .ref a_t), (1, .int p1), (2, .int p2), (3, .int p3), (4, .long p4), (6, .long p5), (8, .int v8)]) hx hb dX1_leadTo_73 hl (by decide) rfl (fun ls hl => ?_)
      refine lv_iconst (v := (1 : Int32)) hx hb dX1_leadTo_75 (by decide) ?_
      refine lv_istore (lv' := [(13, .int (1 : Int32)), (12, .int (0 : Int32)), (11, .int (0 : Int32)), (10, .int (0 : Int32)), (9, .int (m_t_needs (ix p2))), (0, .ref a_t), (1, .int p1), (2, .int p2), (3, .int p3), (4, .long p4), (6, .long p5), (8, .int v8)]) hx hb dX1_leadTo_76 hl (by decide) rfl (fun ls hl => ?_)
      exact L78 FU v8 (m_t_needs (ix p2)) (0 : Int32) (0 : Int32) (0 : Int32) (1 : Int32) m_t_ways m_t_weighed m_t_weighedAsked m_t_needs hf H locs ls hP hD hS (lv_sub hl [5, 6, 7, 8, 9, 10, 11, 4, 3, 2, 1, 0] rfl)
    · have hf := if_f c_48 hf
      refine lv_bipush (v := (40 : Int32)) hx hb dX1_leadTo_51 (by decide) ?_
      refine lv_iload_n hx hb dX1_leadTo_53 rfl (lv_at hl 1 rfl) ?_
      refine lv_iadd hx hb dX1_leadTo_54 ?_
      refine lv_goto (tgt := 64) hx hb dX1_leadTo_55 (by decide) ?_
      refine lv_istore (lv' := [(9, .int ((40 : Int32) + p1)), (0, .ref a_t), (1, .int p1), (2, .int p2), (3, .int p3), (4, .long p4), (6, .long p5), (8, .int v8)]) hx hb dX1_leadTo_64 hl (by decide) rfl (fun ls hl => ?_)
      refine lv_iconst (v := (0 : Int32)) hx hb dX1_leadTo_66 (by decide) ?_
      refine lv_istore (lv' := [(10, .int (0 : Int32)), (9, .int ((40 : Int32) + p1)), (0, .ref a_t), (1, .int p1), (2, .int p2), (3, .int p3), (4, .long p4), (6, .long p5), (8, .int v8)]) hx hb dX1_leadTo_67 hl (by decide) rfl (fun ls hl => ?_)
      refine lv_iconst (v := (0 : Int32)) hx hb dX1_leadTo_69 (by decide) ?_
      refine lv_istore (lv' := [(11, .int (0 : Int32)), (10, .int (0 : Int32)), (9, .int ((40 : Int32) + p1)), (0, .ref a_t), (1, .int p1), (2, .int p2), (3, .int p3), (4, .long p4), (6, .long p5), (8, .int v8)]) hx hb dX1_leadTo_70 hl (by decide) rfl (fun ls hl => ?_)
      refine lv_iconst (v := (0 : Int32)) hx hb dX1_leadTo_72 (by decide) ?_
      refine lv_istore (lv' := [(12, .int (0 : Int32)), (11, .int (0 : Int32)), (10, .int (0 : Int32)), (9, .int ((40 : Int32) + p1)), (0, .ref a_t), (1, .int p1), (2, .int p2), (3, .int p3), (4, .long p4), (6, .long p5), (8, .int v8)]) hx hb dX1_leadTo_73 hl (by decide) rfl (fun ls hl => ?_)
      refine lv_iconst (v := (1 : Int32)) hx hb dX1_leadTo_75 (by decide) ?_
      refine lv_istore (lv' := [(13, .int (1 : Int32)), (12, .int (0 : Int32)), (11, .int (0 : Int32)), (10, .int (0 : Int32)), (9, .int ((40 : Int32) + p1)), (0, .ref a_t), (1, .int p1), (2, .int p2), (3, .int p3), (4, .long p4), (6, .long p5), (8, .int v8)]) hx hb dX1_leadTo_76 hl (by decide) rfl (fun ls hl => ?_)
      exact L78 FU v8 ((40 : Int32) + p1) (0 : Int32) (0 : Int32) (0 : Int32) (1 : Int32) m_t_ways m_t_weighed m_t_weighedAsked m_t_needs hf H locs ls hP hD hS (lv_sub hl [5, 6, 7, 8, 9, 10, 11, 4, 3, 2, 1, 0] rfl)
  have L13 : ∀ (s0 : Int32) (m_t_ways : Int32) (m_t_weighed : Int64) (m_t_weighedAsked : Int64) (m_t_needs : Nat → Int32), f_X1_leadTo_13 G p1 p2 p3 p4 p5 x_t_many x_t_places x_t_weightOfAll x_t_manyWeighed x_t_askedSpot x_t_askedCount x_t_weights x_t_spots x_t_roots s0 m_t_ways m_t_weighed m_t_weighedAsked m_t_needs = some res → ∀ (H : Heap) (locs : List Loc) (ls : Array Slot), va_P E.1 vwCl (wd_X1_leadTo E a_t a_t_needs a_t_weights a_t_spots a_t_roots x_t_many x_t_places x_t_weightOfAll x_t_manyWeighed x_t_askedSpot x_t_askedCount m_t_ways m_t_weighed m_t_weighedAsked m_t_needs x_t_weights x_t_spots x_t_roots) H → va_D A (wd_X1_leadTo E a_t a_t_needs a_t_weights a_t_spots a_t_roots x_t_many x_t_places x_t_weightOfAll x_t_manyWeighed x_t_askedSpot x_t_askedCount m_t_ways m_t_weighed m_t_weighedAsked m_t_needs x_t_weights x_t_spots x_t_roots) → va_S A s.heap H locs → lv_has ls 14 [(0, .ref a_t), (1, .int p1), (2, .int p2), (3, .int p3), (4, .long p4), (6, .long p5)] → W p l e (rmm (f0 + 1) (k0 + 27)) s m ([.ref a_t, .int p1, .int p2, .int p3, .long p4, .long p5] : List Value).toArray below meth c H locs 0 0 Q (F0 m 13 ls [.int s0]) := by
    intro s0 m_t_ways m_t_weighed m_t_weighedAsked m_t_needs hf H locs ls hP hD hS hl
    rw [f_X1_leadTo_13] at hf
    refine lv_istore (lv' := [(8, .int s0), (0, .ref a_t), (1, .int p1), (2, .int p2), (3, .int p3), (4, .long p4), (6, .long p5)]) hx hb dX1_leadTo_13 hl (by decide) rfl (fun ls hl => ?_)
    refine lv_iload hx hb dX1_leadTo_15 (lv_at hl 0 rfl) ?_
    refine lv_if_eq (tgt := 46) hx hb dX1_leadTo_17 (by decide) (fun c_17 => ?_) (fun c_17 => ?_)
    · have hf := if_t c_17 hf
      exact L46 s0 m_t_ways m_t_weighed m_t_weighedAsked m_t_needs hf H locs ls hP hD hS (lv_sub hl [1, 2, 3, 4, 5, 6, 0] rfl)
    · have hf := if_f c_17 hf
      refine lv_aload_n hx hb dX1_leadTo_20 rfl (lv_at hl 1 rfl) ?_
      refine gf_X1_18 X hP 0 rfl rfl dX1_leadTo_21 ?_
      refine lv_iload_n hx hb dX1_leadTo_24 rfl (lv_at hl 2 rfl) ?_
      obtain ⟨hi25, hf⟩ := ck_some hf
      refine r_iald X hP 1 rfl hi25 dX1_leadTo_25 ?_
      refine lv_iconst (v := (-1 : Int32)) hx hb dX1_leadTo_26 (by decide) ?_
      refine lv_icmp_eq (tgt := 46) hx hb dX1_leadTo_27 (by decide) (fun c_27 => ?_) (fun c_27 => ?_)
      · have hf := if_t c_27 hf
        exact L46 s0 m_t_ways m_t_weighed m_t_weighedAsked m_t_needs hf H locs ls hP hD hS (lv_sub hl [1, 2, 3, 4, 5, 6, 0] rfl)
      · have hf := if_f c_27 hf
        refine lv_aload_n hx hb dX1_leadTo_30 rfl (lv_at hl 1 rfl) ?_
        refine gf_X1_18 X hP 0 rfl rfl dX1_leadTo_31 ?_
        refine lv_iload_n hx hb dX1_leadTo_34 rfl (lv_at hl 2 rfl) ?_
        refine r_iald X hP 1 rfl hi25 dX1_leadTo_35 ?_
        refine lv_aload_n hx hb dX1_leadTo_36 rfl (lv_at hl 1 rfl) ?_
        refine gf_X1_18 X hP 0 rfl rfl dX1_leadTo_37 ?_
        refine lv_iload_n hx hb dX1_leadTo_40 rfl (lv_at hl 3 rfl) ?_
        obtain ⟨hi41, hf⟩ := ck_some hf
        refine r_iald X hP 1 rfl hi41 dX1_leadTo_41 ?_
        refine lv_icmp_eq (tgt := 46) hx hb dX1_leadTo_42 (by decide) (fun c_42 => ?_) (fun c_42 => ?_)
        · have hf := if_t c_42 hf
          exact L46 s0 m_t_ways m_t_weighed m_t_weighedAsked m_t_needs hf H locs ls hP hD hS (lv_sub hl [1, 2, 3, 4, 5, 6, 0] rfl)
        · have hf := if_f c_42 hf
          exact fin' _ _ _ _ hf 45 ls H locs dX1_leadTo_45 hP hD hS
  have hS : va_S A s.heap s.heap [] := va_S.rf
  obtain ⟨H, hH9⟩ : ∃ z, z = s.heap := ⟨_, rfl⟩
  obtain ⟨locs, hL9⟩ : ∃ z : List Loc, z = [] := ⟨_, rfl⟩
  rw [← hL9]
  rw [← hL9] at hS
  have hP : va_P E.1 vwCl (wd_X1_leadTo E a_t a_t_needs a_t_weights a_t_spots a_t_roots x_t_many x_t_places x_t_weightOfAll x_t_manyWeighed x_t_askedSpot x_t_askedCount x_t_ways x_t_weighed x_t_weighedAsked x_t_needs x_t_weights x_t_spots x_t_roots) H := by rw [hH9]; exact hP
  have hS : va_S A s.heap H locs := by rw [hH9]; exact hS
  suffices hgoal : W p l e (rmm (f0 + 1) (k0 + 27)) s m ([.ref a_t, .int p1, .int p2, .int p3, .long p4, .long p5] : List Value).toArray below meth c H locs 0 0 Q (F0 m 0 ls []) by rw [hH9] at hgoal; exact hgoal
  rw [f_X1_leadTo] at hf
  refine lv_iload_n hx hb dX1_leadTo_0 rfl (lv_at hl 1 rfl) ?_
  refine lv_aload_n hx hb dX1_leadTo_1 rfl (lv_at hl 0 rfl) ?_
  refine gf_X1_80 X hP 0 rfl rfl dX1_leadTo_2 ?_
  refine lv_icmp_ge (tgt := 12) hx hb dX1_leadTo_5 (by decide) (fun c_5 => ?_) (fun c_5 => ?_)
  · have hf := if_t c_5 hf
    refine lv_iconst (v := (0 : Int32)) hx hb dX1_leadTo_12 (by decide) ?_
    exact L13 (0 : Int32) x_t_ways x_t_weighed x_t_weighedAsked x_t_needs hf H locs ls hP hD hS (lv_sub hl [0, 1, 2, 3, 4, 5] rfl)
  · have hf := if_f c_5 hf
    refine lv_iconst (v := (1 : Int32)) hx hb dX1_leadTo_8 (by decide) ?_
    refine lv_goto (tgt := 13) hx hb dX1_leadTo_9 (by decide) ?_
    exact L13 (1 : Int32) x_t_ways x_t_weighed x_t_weighedAsked x_t_needs hf H locs ls hP hD hS (lv_sub hl [0, 1, 2, 3, 4, 5] rfl)
def f_X1_goOn_108 (G : Int32 → Int32 → Int64 → Int64 → Int32 → Int32 → Int32 → Int32 → Int32 → Int32 → Int32 → Int64 → Int64 → (Nat → Int32) → (Nat → Int32) → (Nat → Int32) → (Nat → Int32) → Option (Int32 × Int64 × Int64 × (Nat → Int32))) (p1 : Int32) (p2 : Int32) (p3 : Int64) (p4 : Int64) (x_t_many : Int32) (x_t_places : Int32) (x_t_weightOfAll : Int32) (x_t_manyWeighed : Int32) (x_t_askedSpot : Int32) (x_t_askedCount : Int32) (x_t_weights : Nat → Int32) (x_t_spots : Nat → Int32) (x_t_roots : Nat → Int32)  : Nat → Int32 → Int32 → Int64 → Int64 → (Nat → Int32) → Option (Int32 × Int64 × Int64 × (Nat → Int32))
  | 0, _, _, _, _, _ => none
  | n_ + 1, v7, m_t_ways, m_t_weighed, m_t_weighedAsked, m_t_needs =>
    if x_t_many < v7 then
      some (m_t_ways, m_t_weighed, m_t_weighedAsked, m_t_needs)
    else
      Option.bind (f_X1_leadTo G v7 p1 p2 p3 p4 x_t_many x_t_places x_t_weightOfAll x_t_manyWeighed x_t_askedSpot x_t_askedCount m_t_ways m_t_weighed m_t_weighedAsked m_t_needs x_t_weights x_t_spots x_t_roots) (fun r125 =>
      f_X1_goOn_108 G p1 p2 p3 p4 x_t_many x_t_places x_t_weightOfAll x_t_manyWeighed x_t_askedSpot x_t_askedCount x_t_weights x_t_spots x_t_roots n_ (v7 + (1 : Int32)) r125.1 r125.2.1 r125.2.2.1 r125.2.2.2)
def f_X1_goOn_74 (G : Int32 → Int32 → Int64 → Int64 → Int32 → Int32 → Int32 → Int32 → Int32 → Int32 → Int32 → Int64 → Int64 → (Nat → Int32) → (Nat → Int32) → (Nat → Int32) → (Nat → Int32) → Option (Int32 × Int64 × Int64 × (Nat → Int32))) (p1 : Int32) (p2 : Int32) (p3 : Int64) (p4 : Int64) (x_t_many : Int32) (x_t_places : Int32) (x_t_weightOfAll : Int32) (x_t_manyWeighed : Int32) (x_t_askedSpot : Int32) (x_t_askedCount : Int32) (x_t_weights : Nat → Int32) (x_t_spots : Nat → Int32) (x_t_roots : Nat → Int32)  (s0 : Int32) (m_t_ways : Int32) (m_t_weighed : Int64) (m_t_weighedAsked : Int64) (m_t_needs : Nat → Int32) : Option (Int32 × Int64 × Int64 × (Nat → Int32)) :=
  Option.bind (G (p1 + (1 : Int32)) (p2 * x_t_manyWeighed) (p3 * x_t_weightOfAll.toInt64) (p4 * s0.toInt64) x_t_many x_t_places x_t_weightOfAll x_t_manyWeighed x_t_askedSpot x_t_askedCount m_t_ways m_t_weighed m_t_weighedAsked m_t_needs x_t_weights x_t_spots x_t_roots) (fun r99 =>
  some (r99.1, r99.2.1, r99.2.2.1, r99.2.2.2))
def f_X1_goOn_b (G : Int32 → Int32 → Int64 → Int64 → Int32 → Int32 → Int32 → Int32 → Int32 → Int32 → Int32 → Int64 → Int64 → (Nat → Int32) → (Nat → Int32) → (Nat → Int32) → (Nat → Int32) → Option (Int32 × Int64 × Int64 × (Nat → Int32))) (p1 : Int32) (p2 : Int32) (p3 : Int64) (p4 : Int64) (x_t_many : Int32) (x_t_places : Int32) (x_t_weightOfAll : Int32) (x_t_manyWeighed : Int32) (x_t_askedSpot : Int32) (x_t_askedCount : Int32) (x_t_ways : Int32) (x_t_weighed : Int64) (x_t_weighedAsked : Int64) (x_t_needs : Nat → Int32) (x_t_weights : Nat → Int32) (x_t_spots : Nat → Int32) (x_t_roots : Nat → Int32) : Option (Int32 × Int64 × Int64 × (Nat → Int32)) :=
  if p1 < x_t_many then
    ck (inB p1 5) (
    if (x_t_needs (ix p1)) = (-1 : Int32) then
      if p1 = x_t_askedSpot then
        ck (inB x_t_askedCount 11) (
        f_X1_goOn_74 G p1 p2 p3 p4 x_t_many x_t_places x_t_weightOfAll x_t_manyWeighed x_t_askedSpot x_t_askedCount x_t_weights x_t_spots x_t_roots (x_t_weights (ix x_t_askedCount)) x_t_ways x_t_weighed x_t_weighedAsked x_t_needs)
      else
        f_X1_goOn_74 G p1 p2 p3 p4 x_t_many x_t_places x_t_weightOfAll x_t_manyWeighed x_t_askedSpot x_t_askedCount x_t_weights x_t_spots x_t_roots x_t_weightOfAll x_t_ways x_t_weighed x_t_weighedAsked x_t_needs
    else
      f_X1_goOn_108 G p1 p2 p3 p4 x_t_many x_t_places x_t_weightOfAll x_t_manyWeighed x_t_askedSpot x_t_askedCount x_t_weights x_t_spots x_t_roots FU (p1 + (1 : Int32)) x_t_ways x_t_weighed x_t_weighedAsked x_t_needs)
  else
    some ((x_t_ways + p2), (x_t_weighed + p3), (x_t_weighedAsked + p4), x_t_needs)
set_option maxHeartbeats 4000000 in
set_option maxRecDepth 100000 in
theorem c_X1_goOn_b (l : Launch) (E : EN) (a_t a_t_needs a_t_weights a_t_spots a_t_roots : Nat) (G : Int32 → Int32 → Int64 → Int64 → Int32 → Int32 → Int32 → Int32 → Int32 → Int32 → Int32 → Int64 → Int64 → (Nat → Int32) → (Nat → Int32) → (Nat → Int32) → (Nat → Int32) → Option (Int32 × Int64 × Int64 × (Nat → Int32))) (f0 k0 : Nat) (hG : ∀ (x_t_many : Int32) (x_t_places : Int32) (x_t_weightOfAll : Int32) (x_t_manyWeighed : Int32) (x_t_askedSpot : Int32) (x_t_askedCount : Int32) (x_t_ways : Int32) (x_t_weighed : Int64) (x_t_weighedAsked : Int64) (x_t_needs : Nat → Int32) (x_t_weights : Nat → Int32) (x_t_spots : Nat → Int32) (x_t_roots : Nat → Int32) (p1 : Int32) (p2 : Int32) (p3 : Int64) (p4 : Int64) (res : Int32 × Int64 × Int64 × (Nat → Int32)), G p1 p2 p3 p4 x_t_many x_t_places x_t_weightOfAll x_t_manyWeighed x_t_askedSpot x_t_askedCount x_t_ways x_t_weighed x_t_weighedAsked x_t_needs x_t_weights x_t_spots x_t_roots = some res → CtV l yX1_goOn cX1_goOn 8 f0 k0 E [.ref a_t, .int p1, .int p2, .long p3, .long p4] (wd_X1_goOn E a_t a_t_needs a_t_weights a_t_spots a_t_roots x_t_many x_t_places x_t_weightOfAll x_t_manyWeighed x_t_askedSpot x_t_askedCount x_t_ways x_t_weighed x_t_weighedAsked x_t_needs x_t_weights x_t_spots x_t_roots) (wd_X1_goOn E a_t a_t_needs a_t_weights a_t_spots a_t_roots x_t_many x_t_places x_t_weightOfAll x_t_manyWeighed x_t_askedSpot x_t_askedCount res.1 res.2.1 res.2.2.1 res.2.2.2 x_t_weights x_t_spots x_t_roots)) (x_t_many : Int32) (x_t_places : Int32) (x_t_weightOfAll : Int32) (x_t_manyWeighed : Int32) (x_t_askedSpot : Int32) (x_t_askedCount : Int32) (x_t_ways : Int32) (x_t_weighed : Int64) (x_t_weighedAsked : Int64) (x_t_needs : Nat → Int32) (x_t_weights : Nat → Int32) (x_t_spots : Nat → Int32) (x_t_roots : Nat → Int32) (p1 : Int32) (p2 : Int32) (p3 : Int64) (p4 : Int64) (res : Int32 × Int64 × Int64 × (Nat → Int32)) (hf : f_X1_goOn_b G p1 p2 p3 p4 x_t_many x_t_places x_t_weightOfAll x_t_manyWeighed x_t_askedSpot x_t_askedCount x_t_ways x_t_weighed x_t_weighedAsked x_t_needs x_t_weights x_t_spots x_t_roots = some res) : CtV l yX1_goOn cX1_goOn 8 (f0 + 6) (k0 + 200) E [.ref a_t, .int p1, .int p2, .long p3, .long p4] (wd_X1_goOn E a_t a_t_needs a_t_weights a_t_spots a_t_roots x_t_many x_t_places x_t_weightOfAll x_t_manyWeighed x_t_askedSpot x_t_askedCount x_t_ways x_t_weighed x_t_weighedAsked x_t_needs x_t_weights x_t_spots x_t_roots) (wd_X1_goOn E a_t a_t_needs a_t_weights a_t_spots a_t_roots x_t_many x_t_places x_t_weightOfAll x_t_manyWeighed x_t_askedSpot x_t_askedCount res.1 res.2.1 res.2.2.1 res.2.2.2 x_t_weights x_t_spots x_t_roots) := by
  refine CtV.of RX1 (by decide) rfl (Nat.le_of_ble_eq_true rfl) ?_
  intro p e s m below meth c A Q ls X hA hP hD hl fin
  have hx := X.1
  have hb := X.2.1
  have hl : lv_has ls 8 [(0, .ref a_t), (1, .int p1), (2, .int p2), (3, .long p3), (5, .long p4)] := hl
  have fin' : ∀ (fr0 : Int32) (fr1 : Int64) (fr2 : Int64) (fr3 : (Nat → Int32)), some (fr0, fr1, fr2, fr3) = some res → ∀ (pc : Nat) (ls : Array Slot) (H : Heap) (locs : List Loc), decode cX1_goOn pc = .ok (.return_, 1) → va_P E.1 vwCl (wd_X1_goOn E a_t a_t_needs a_t_weights a_t_spots a_t_roots x_t_many x_t_places x_t_weightOfAll x_t_manyWeighed x_t_askedSpot x_t_askedCount fr0 fr1 fr2 fr3 x_t_weights x_t_spots x_t_roots) H → va_D A (wd_X1_goOn E a_t a_t_needs a_t_weights a_t_spots a_t_roots x_t_many x_t_places x_t_weightOfAll x_t_manyWeighed x_t_askedSpot x_t_askedCount fr0 fr1 fr2 fr3 x_t_weights x_t_spots x_t_roots) → va_S A s.heap H locs → W p l e (rmm (f0 + 6) (k0 + 200)) s m ([.ref a_t, .int p1, .int p2, .long p3, .long p4] : List Value).toArray below meth c H locs 0 0 Q (F0 m pc ls []) := by
    intro fr0 fr1 fr2 fr3 he
    cases he
    exact fin
  have L108 : ∀ (n108 : Nat) (v7 : Int32) (m_t_ways : Int32) (m_t_weighed : Int64) (m_t_weighedAsked : Int64) (m_t_needs : Nat → Int32), f_X1_goOn_108 G p1 p2 p3 p4 x_t_many x_t_places x_t_weightOfAll x_t_manyWeighed x_t_askedSpot x_t_askedCount x_t_weights x_t_spots x_t_roots n108 v7 m_t_ways m_t_weighed m_t_weighedAsked m_t_needs = some res → ∀ (H : Heap) (locs : List Loc) (ls : Array Slot), va_P E.1 vwCl (wd_X1_goOn E a_t a_t_needs a_t_weights a_t_spots a_t_roots x_t_many x_t_places x_t_weightOfAll x_t_manyWeighed x_t_askedSpot x_t_askedCount m_t_ways m_t_weighed m_t_weighedAsked m_t_needs x_t_weights x_t_spots x_t_roots) H → va_D A (wd_X1_goOn E a_t a_t_needs a_t_weights a_t_spots a_t_roots x_t_many x_t_places x_t_weightOfAll x_t_manyWeighed x_t_askedSpot x_t_askedCount m_t_ways m_t_weighed m_t_weighedAsked m_t_needs x_t_weights x_t_spots x_t_roots) → va_S A s.heap H locs → lv_has ls 8 [(0, .ref a_t), (1, .int p1), (2, .int p2), (3, .long p3), (5, .long p4), (7, .int v7)] → W p l e (rmm (f0 + 6) (k0 + 200)) s m ([.ref a_t, .int p1, .int p2, .long p3, .long p4] : List Value).toArray below meth c H locs 0 0 Q (F0 m 108 ls []) := by
    intro n108
    induction n108 with
    | zero => intro v7 m_t_ways m_t_weighed m_t_weighedAsked m_t_needs hf; rw [f_X1_goOn_108] at hf; cases hf
    | succ n108 ih108 =>
      intro v7 m_t_ways m_t_weighed m_t_weighedAsked m_t_needs hf H locs ls hP hD hS hl
      rw [f_X1_goOn_108] at hf
      refine lv_iload hx hb dX1_goOn_108 (lv_at hl 5 rfl) ?_
      refine lv_aload_n hx hb dX1_goOn_110 rfl (lv_at hl 0 rfl) ?_
      refine gf_X1_80 X hP 0 rfl rfl dX1_goOn_111 ?_
      refine lv_icmp_gt (tgt := 134) hx hb dX1_goOn_114 (by decide) (fun c_114 => ?_) (fun c_114 => ?_)
      · have hf := if_t c_114 hf
        exact fin' _ _ _ _ hf 134 ls H locs dX1_goOn_134 hP hD hS
      · have hf := if_f c_114 hf
        refine lv_aload_n hx hb dX1_goOn_117 rfl (lv_at hl 0 rfl) ?_
        refine lv_iload hx hb dX1_goOn_118 (lv_at hl 5 rfl) ?_
        refine lv_iload_n hx hb dX1_goOn_120 rfl (lv_at hl 1 rfl) ?_
        refine lv_iload_n hx hb dX1_goOn_121 rfl (lv_at hl 2 rfl) ?_
        refine lv_lload_n hx hb dX1_goOn_122 rfl (lv_at hl 3 rfl) ?_
        refine lv_lload hx hb dX1_goOn_123 (lv_at hl 4 rfl) ?_
        obtain ⟨r125, hc125, hf⟩ := bd_some hf
        refine cV_V X hA hP hD hS hl.1 (c_X1_leadTo l E a_t a_t_needs a_t_weights a_t_spots a_t_roots G f0 k0 hG x_t_many x_t_places x_t_weightOfAll x_t_manyWeighed x_t_askedSpot x_t_askedCount m_t_ways m_t_weighed m_t_weighedAsked m_t_needs x_t_weights x_t_spots x_t_roots v7 p1 p2 p3 p4 r125 hc125) 5 k_589 mw_X1_leadTo hd_X1_leadTo ⟨by show (f0 + 1) + 1 ≤ (f0 + 6); omega, by show 8 + (14 + 11) + (k0 + 27) ≤ (k0 + 200); omega⟩ [0, 1, 2, 3, 4] [] [0, 1, 2, 3, 4] rfl rfl (wr := []) rfl rfl rfl 1 0 rfl rfl rfl rfl rfl (Nat.le_of_ble_eq_true rfl) rfl (ws' := (wd_X1_goOn E a_t a_t_needs a_t_weights a_t_spots a_t_roots x_t_many x_t_places x_t_weightOfAll x_t_manyWeighed x_t_askedSpot x_t_askedCount r125.1 r125.2.1 r125.2.2.1 r125.2.2.2 x_t_weights x_t_spots x_t_roots)) rfl ⟨Nat.le_of_ble_eq_true rfl, Nat.le_of_ble_eq_true rfl⟩ dX1_goOn_125 (fun H locs hP hD hS => ?_)
        refine lv_iinc (v := (v7 + (1 : Int32))) (lv' := [(7, .int (v7 + (1 : Int32))), (0, .ref a_t), (1, .int p1), (2, .int p2), (3, .long p3), (5, .long p4)]) hx hb dX1_goOn_128 hl (k := 5) rfl rfl (by decide) rfl (fun ls hl => ?_)
        refine lv_goto (tgt := 108) hx hb dX1_goOn_131 (by decide) ?_
        exact ih108 (v7 + (1 : Int32)) r125.1 r125.2.1 r125.2.2.1 r125.2.2.2 hf H locs ls hP hD hS (lv_sub hl [1, 2, 3, 4, 5, 0] rfl)
  have L74 : ∀ (s0 : Int32) (m_t_ways : Int32) (m_t_weighed : Int64) (m_t_weighedAsked : Int64) (m_t_needs : Nat → Int32), f_X1_goOn_74 G p1 p2 p3 p4 x_t_many x_t_places x_t_weightOfAll x_t_manyWeighed x_t_askedSpot x_t_askedCount x_t_weights x_t_spots x_t_roots s0 m_t_ways m_t_weighed m_t_weighedAsked m_t_needs = some res → ∀ (H : Heap) (locs : List Loc) (ls : Array Slot), va_P E.1 vwCl (wd_X1_goOn E a_t a_t_needs a_t_weights a_t_spots a_t_roots x_t_many x_t_places x_t_weightOfAll x_t_manyWeighed x_t_askedSpot x_t_askedCount m_t_ways m_t_weighed m_t_weighedAsked m_t_needs x_t_weights x_t_spots x_t_roots) H → va_D A (wd_X1_goOn E a_t a_t_needs a_t_weights a_t_spots a_t_roots x_t_many x_t_places x_t_weightOfAll x_t_manyWeighed x_t_askedSpot x_t_askedCount m_t_ways m_t_weighed m_t_weighedAsked m_t_needs x_t_weights x_t_spots x_t_roots) → va_S A s.heap H locs → lv_has ls 8 [(0, .ref a_t), (1, .int p1), (2, .int p2), (3, .long p3), (5, .long p4)] → W p l e (rmm (f0 + 6) (k0 + 200)) s m ([.ref a_t, .int p1, .int p2, .long p3, .long p4] : List Value).toArray below meth c H locs 0 0 Q (F0 m 74 ls [.int s0]) := by
    intro s0 m_t_ways m_t_weighed m_t_weighedAsked m_t_needs hf H locs ls hP hD hS hl
    rw [f_X1_goOn_74] at hf
    refine lv_istore (lv' := [(7, .int s0), (0, .ref a_t), (1, .int p1), (2, .int p2), (3, .long p3), (5, .long p4)]) hx hb dX1_goOn_74 hl (by decide) rfl (fun ls hl => ?_)
    refine lv_aload_n hx hb dX1_goOn_76 rfl (lv_at hl 1 rfl) ?_
    refine lv_iload_n hx hb dX1_goOn_77 rfl (lv_at hl 2 rfl) ?_
    refine lv_iconst (v := (1 : Int32)) hx hb dX1_goOn_78 (by decide) ?_
    refine lv_iadd hx hb dX1_goOn_79 ?_
    refine lv_iload_n hx hb dX1_goOn_80 rfl (lv_at hl 3 rfl) ?_
    refine lv_aload_n hx hb dX1_goOn_81 rfl (lv_at hl 1 rfl) ?_
    refine gf_X1_46 X hP 0 rfl rfl dX1_goOn_82 ?_
    refine lv_imul hx hb dX1_goOn_85 ?_
    refine lv_lload_n hx hb dX1_goOn_86 rfl (lv_at hl 4 rfl) ?_
    refine lv_aload_n hx hb dX1_goOn_87 rfl (lv_at hl 1 rfl) ?_
    refine gf_X1_44 X hP 0 rfl rfl dX1_goOn_88 ?_
    refine lv_i2l (v := x_t_weightOfAll.toInt64) hx hb dX1_goOn_91 rfl ?_
    refine lv_lmul hx hb dX1_goOn_92 ?_
    refine lv_lload hx hb dX1_goOn_93 (lv_at hl 5 rfl) ?_
    refine lv_iload hx hb dX1_goOn_95 (lv_at hl 0 rfl) ?_
    refine lv_i2l (v := s0.toInt64) hx hb dX1_goOn_97 rfl ?_
    refine lv_lmul hx hb dX1_goOn_98 ?_
    obtain ⟨r99, hc99, hf⟩ := bd_some hf
    refine cV_V X hA hP hD hS hl.1 (hG x_t_many x_t_places x_t_weightOfAll x_t_manyWeighed x_t_askedSpot x_t_askedCount m_t_ways m_t_weighed m_t_weighedAsked m_t_needs x_t_weights x_t_spots x_t_roots (p1 + (1 : Int32)) (p2 * x_t_manyWeighed) (p3 * x_t_weightOfAll.toInt64) (p4 * s0.toInt64) r99 hc99) 4 k_585 mw_X1_goOn hd_X1_goOn ⟨by show f0 + 1 ≤ (f0 + 6); omega, by show 8 + (8 + 11) + k0 ≤ (k0 + 200); omega⟩ [0, 1, 2, 3, 4] [] [0, 1, 2, 3, 4] rfl rfl (wr := []) rfl rfl rfl 1 0 rfl rfl rfl rfl rfl (Nat.le_of_ble_eq_true rfl) rfl (ws' := (wd_X1_goOn E a_t a_t_needs a_t_weights a_t_spots a_t_roots x_t_many x_t_places x_t_weightOfAll x_t_manyWeighed x_t_askedSpot x_t_askedCount r99.1 r99.2.1 r99.2.2.1 r99.2.2.2 x_t_weights x_t_spots x_t_roots)) rfl ⟨Nat.le_of_ble_eq_true rfl, Nat.le_of_ble_eq_true rfl⟩ dX1_goOn_99 (fun H locs hP hD hS => ?_)
    exact fin' _ _ _ _ hf 102 ls H locs dX1_goOn_102 hP hD hS
  have hS : va_S A s.heap s.heap [] := va_S.rf
  obtain ⟨H, hH9⟩ : ∃ z, z = s.heap := ⟨_, rfl⟩
  obtain ⟨locs, hL9⟩ : ∃ z : List Loc, z = [] := ⟨_, rfl⟩
  rw [← hL9]
  rw [← hL9] at hS
  have hP : va_P E.1 vwCl (wd_X1_goOn E a_t a_t_needs a_t_weights a_t_spots a_t_roots x_t_many x_t_places x_t_weightOfAll x_t_manyWeighed x_t_askedSpot x_t_askedCount x_t_ways x_t_weighed x_t_weighedAsked x_t_needs x_t_weights x_t_spots x_t_roots) H := by rw [hH9]; exact hP
  have hS : va_S A s.heap H locs := by rw [hH9]; exact hS
  suffices hgoal : W p l e (rmm (f0 + 6) (k0 + 200)) s m ([.ref a_t, .int p1, .int p2, .long p3, .long p4] : List Value).toArray below meth c H locs 0 0 Q (F0 m 0 ls []) by rw [hH9] at hgoal; exact hgoal
  rw [f_X1_goOn_b] at hf
  refine lv_iload_n hx hb dX1_goOn_0 rfl (lv_at hl 1 rfl) ?_
  refine lv_aload_n hx hb dX1_goOn_1 rfl (lv_at hl 0 rfl) ?_
  refine gf_X1_80 X hP 0 rfl rfl dX1_goOn_2 ?_
  refine lv_icmp_lt (tgt := 40) hx hb dX1_goOn_5 (by decide) (fun c_5 => ?_) (fun c_5 => ?_)
  · have hf := if_t c_5 hf
    refine lv_aload_n hx hb dX1_goOn_40 rfl (lv_at hl 0 rfl) ?_
    refine gf_X1_18 X hP 0 rfl rfl dX1_goOn_41 ?_
    refine lv_iload_n hx hb dX1_goOn_44 rfl (lv_at hl 1 rfl) ?_
    obtain ⟨hi45, hf⟩ := ck_some hf
    refine r_iald X hP 1 rfl hi45 dX1_goOn_45 ?_
    refine lv_iconst (v := (-1 : Int32)) hx hb dX1_goOn_46 (by decide) ?_
    refine lv_icmp_ne (tgt := 103) hx hb dX1_goOn_47 (by decide) (fun c_47 => ?_) (fun c_47 => ?_)
    · have hf := if_f c_47 hf
      refine lv_iload_n hx hb dX1_goOn_103 rfl (lv_at hl 1 rfl) ?_
      refine lv_iconst (v := (1 : Int32)) hx hb dX1_goOn_104 (by decide) ?_
      refine lv_iadd hx hb dX1_goOn_105 ?_
      refine lv_istore (lv' := [(7, .int (p1 + (1 : Int32))), (0, .ref a_t), (1, .int p1), (2, .int p2), (3, .long p3), (5, .long p4)]) hx hb dX1_goOn_106 hl (by decide) rfl (fun ls hl => ?_)
      exact L108 FU (p1 + (1 : Int32)) x_t_ways x_t_weighed x_t_weighedAsked x_t_needs hf H locs ls hP hD hS (lv_sub hl [1, 2, 3, 4, 5, 0] rfl)
    · have hf := if_t c_47 hf
      refine lv_iload_n hx hb dX1_goOn_50 rfl (lv_at hl 1 rfl) ?_
      refine lv_aload_n hx hb dX1_goOn_51 rfl (lv_at hl 0 rfl) ?_
      refine gf_X1_49 X hP 0 rfl rfl dX1_goOn_52 ?_
      refine lv_icmp_ne (tgt := 70) hx hb dX1_goOn_55 (by decide) (fun c_55 => ?_) (fun c_55 => ?_)
      · have hf := if_f c_55 hf
        refine lv_aload_n hx hb dX1_goOn_70 rfl (lv_at hl 0 rfl) ?_
        refine gf_X1_44 X hP 0 rfl rfl dX1_goOn_71 ?_
        exact L74 x_t_weightOfAll x_t_ways x_t_weighed x_t_weighedAsked x_t_needs hf H locs ls hP hD hS (lv_sub hl [0, 1, 2, 3, 4] rfl)
      · have hf := if_t c_55 hf
        refine lv_aload_n hx hb dX1_goOn_58 rfl (lv_at hl 0 rfl) ?_
        refine gf_X1_21 X hP 0 rfl rfl dX1_goOn_59 ?_
        refine lv_aload_n hx hb dX1_goOn_62 rfl (lv_at hl 0 rfl) ?_
        refine gf_X1_52 X hP 0 rfl rfl dX1_goOn_63 ?_
        obtain ⟨hi66, hf⟩ := ck_some hf
        refine r_iald X hP 2 rfl hi66 dX1_goOn_66 ?_
        refine lv_goto (tgt := 74) hx hb dX1_goOn_67 (by decide) ?_
        exact L74 (x_t_weights (ix x_t_askedCount)) x_t_ways x_t_weighed x_t_weighedAsked x_t_needs hf H locs ls hP hD hS (lv_sub hl [0, 1, 2, 3, 4] rfl)
  · have hf := if_f c_5 hf
    refine lv_aload_n hx hb dX1_goOn_8 rfl (lv_at hl 0 rfl) ?_
    refine lv_dup hx hb dX1_goOn_9 rfl ?_
    refine gf_X1_55 X hP 0 rfl rfl dX1_goOn_10 ?_
    refine lv_iload_n hx hb dX1_goOn_13 rfl (lv_at hl 2 rfl) ?_
    refine lv_iadd hx hb dX1_goOn_14 ?_
    refine pf_X1_55 X hP hD hS 0 rfl (Nat.le_of_ble_eq_true rfl) (ws' := (wd_X1_goOn E a_t a_t_needs a_t_weights a_t_spots a_t_roots x_t_many x_t_places x_t_weightOfAll x_t_manyWeighed x_t_askedSpot x_t_askedCount (x_t_ways + p2) x_t_weighed x_t_weighedAsked x_t_needs x_t_weights x_t_spots x_t_roots)) rfl dX1_goOn_15 (fun H locs hP hD hS => ?_)
    refine lv_aload_n hx hb dX1_goOn_18 rfl (lv_at hl 0 rfl) ?_
    refine lv_dup hx hb dX1_goOn_19 rfl ?_
    refine gf_X1_58 X hP 0 rfl rfl dX1_goOn_20 ?_
    refine lv_lload_n hx hb dX1_goOn_23 rfl (lv_at hl 3 rfl) ?_
    refine lv_ladd hx hb dX1_goOn_24 ?_
    refine pf_X1_58 X hP hD hS 0 rfl (Nat.le_of_ble_eq_true rfl) (ws' := (wd_X1_goOn E a_t a_t_needs a_t_weights a_t_spots a_t_roots x_t_many x_t_places x_t_weightOfAll x_t_manyWeighed x_t_askedSpot x_t_askedCount (x_t_ways + p2) (x_t_weighed + p3) x_t_weighedAsked x_t_needs x_t_weights x_t_spots x_t_roots)) rfl dX1_goOn_25 (fun H locs hP hD hS => ?_)
    refine lv_aload_n hx hb dX1_goOn_28 rfl (lv_at hl 0 rfl) ?_
    refine lv_dup hx hb dX1_goOn_29 rfl ?_
    refine gf_X1_62 X hP 0 rfl rfl dX1_goOn_30 ?_
    refine lv_lload hx hb dX1_goOn_33 (lv_at hl 4 rfl) ?_
    refine lv_ladd hx hb dX1_goOn_35 ?_
    refine pf_X1_62 X hP hD hS 0 rfl (Nat.le_of_ble_eq_true rfl) (ws' := (wd_X1_goOn E a_t a_t_needs a_t_weights a_t_spots a_t_roots x_t_many x_t_places x_t_weightOfAll x_t_manyWeighed x_t_askedSpot x_t_askedCount (x_t_ways + p2) (x_t_weighed + p3) (x_t_weighedAsked + p4) x_t_needs x_t_weights x_t_spots x_t_roots)) rfl dX1_goOn_36 (fun H locs hP hD hS => ?_)
    exact fin' _ _ _ _ hf 39 ls H locs dX1_goOn_39 hP hD hS
def f_X1_goOn : Nat → Int32 → Int32 → Int64 → Int64 → Int32 → Int32 → Int32 → Int32 → Int32 → Int32 → Int32 → Int64 → Int64 → (Nat → Int32) → (Nat → Int32) → (Nat → Int32) → (Nat → Int32) → Option (Int32 × Int64 × Int64 × (Nat → Int32))
  | 0, _, _, _, _, _, _, _, _, _, _, _, _, _, _, _, _, _ => none
  | d + 1, p1, p2, p3, p4, x_t_many, x_t_places, x_t_weightOfAll, x_t_manyWeighed, x_t_askedSpot, x_t_askedCount, x_t_ways, x_t_weighed, x_t_weighedAsked, x_t_needs, x_t_weights, x_t_spots, x_t_roots => f_X1_goOn_b (f_X1_goOn d) p1 p2 p3 p4 x_t_many x_t_places x_t_weightOfAll x_t_manyWeighed x_t_askedSpot x_t_askedCount x_t_ways x_t_weighed x_t_weighedAsked x_t_needs x_t_weights x_t_spots x_t_roots
theorem c_X1_goOn (l : Launch) (E : EN) (a_t a_t_needs a_t_weights a_t_spots a_t_roots : Nat) : ∀ (d : Nat) (x_t_many : Int32) (x_t_places : Int32) (x_t_weightOfAll : Int32) (x_t_manyWeighed : Int32) (x_t_askedSpot : Int32) (x_t_askedCount : Int32) (x_t_ways : Int32) (x_t_weighed : Int64) (x_t_weighedAsked : Int64) (x_t_needs : Nat → Int32) (x_t_weights : Nat → Int32) (x_t_spots : Nat → Int32) (x_t_roots : Nat → Int32) (p1 : Int32) (p2 : Int32) (p3 : Int64) (p4 : Int64) (res : Int32 × Int64 × Int64 × (Nat → Int32)), f_X1_goOn d p1 p2 p3 p4 x_t_many x_t_places x_t_weightOfAll x_t_manyWeighed x_t_askedSpot x_t_askedCount x_t_ways x_t_weighed x_t_weighedAsked x_t_needs x_t_weights x_t_spots x_t_roots = some res → CtV l yX1_goOn cX1_goOn 8 (6 * d) (200 * d) E [.ref a_t, .int p1, .int p2, .long p3, .long p4] (wd_X1_goOn E a_t a_t_needs a_t_weights a_t_spots a_t_roots x_t_many x_t_places x_t_weightOfAll x_t_manyWeighed x_t_askedSpot x_t_askedCount x_t_ways x_t_weighed x_t_weighedAsked x_t_needs x_t_weights x_t_spots x_t_roots) (wd_X1_goOn E a_t a_t_needs a_t_weights a_t_spots a_t_roots x_t_many x_t_places x_t_weightOfAll x_t_manyWeighed x_t_askedSpot x_t_askedCount res.1 res.2.1 res.2.2.1 res.2.2.2 x_t_weights x_t_spots x_t_roots) := by
  intro d
  induction d with
  | zero => intro x_t_many x_t_places x_t_weightOfAll x_t_manyWeighed x_t_askedSpot x_t_askedCount x_t_ways x_t_weighed x_t_weighedAsked x_t_needs x_t_weights x_t_spots x_t_roots p1 p2 p3 p4 res hf; rw [f_X1_goOn] at hf; cases hf
  | succ d ih =>
    intro x_t_many x_t_places x_t_weightOfAll x_t_manyWeighed x_t_askedSpot x_t_askedCount x_t_ways x_t_weighed x_t_weighedAsked x_t_needs x_t_weights x_t_spots x_t_roots p1 p2 p3 p4 res hf
    rw [f_X1_goOn] at hf
    exact c_X1_goOn_b l E a_t a_t_needs a_t_weights a_t_spots a_t_roots (f_X1_goOn d) (6 * d) (200 * d) ih x_t_many x_t_places x_t_weightOfAll x_t_manyWeighed x_t_askedSpot x_t_askedCount x_t_ways x_t_weighed x_t_weighedAsked x_t_needs x_t_weights x_t_spots x_t_roots p1 p2 p3 p4 res hf
abbrev wd_X1_seek (E : EN) (a_t : Nat) (a_p1 : Nat) (a_p2 : Nat) (a_p2_weights : Nat) (a_t_weights : Nat) (a_p1_counts : Nat) (a_t_spots : Nat) (a_t_needs : Nat) (a_t_roots : Nat) (a_p2_sightFrom : Nat) (a_p2_sightOut : Nat) (x_t_many : Int32) (x_t_places : Int32) (x_t_weightOfAll : Int32) (x_t_manyWeighed : Int32) (x_t_askedSpot : Int32) (x_t_askedCount : Int32) (x_t_ways : Int32) (x_t_weighed : Int64) (x_t_weighedAsked : Int64) (w_p1_ends : Value) (w_p1_comers : Value) (w_p1_leaders : Value) (w_p1_chains : Value) (x_p1_places : Int32) (x_p1_beginnings : Int32) (w_p2_text : Value) (x_p2_places : Int32) (x_p2_beginnings : Int32) (x_p2_courtCount : Int32) (x_p2_allowed : Int32) (x_p2_sights : Int32) (x_p2_kept : Int32) (x_p2_weights : Nat → Int32) (x_t_weights : Nat → Int32) (x_p1_counts : Nat → Int32) (x_t_spots : Nat → Int32) (x_t_needs : Nat → Int32) (x_t_roots : Nat → Int32) (x_p2_sightFrom : Nat → Int32) (x_p2_sightOut : Nat → Int32) : va_W := [(a_t, e_O 1 [.ref a_t_roots, .ref a_t_spots, .ref a_t_needs, .ref a_t_weights, .int x_t_many, .int x_t_places, .int x_t_weightOfAll, .int x_t_manyWeighed, .int x_t_askedSpot, .int x_t_askedCount, .int x_t_ways, .long x_t_weighed, .long x_t_weighedAsked]), (a_p1, e_O 2 [.ref a_p1_counts, w_p1_ends, w_p1_comers, w_p1_leaders, w_p1_chains, .int x_p1_places, .int x_p1_beginnings]), (a_p2, e_O 3 [w_p2_text, .ref a_p2_weights, .ref a_p2_sightFrom, .ref a_p2_sightOut, .int x_p2_places, .int x_p2_beginnings, .int x_p2_courtCount, .int x_p2_allowed, .int x_p2_sights, .int x_p2_kept]), (a_p2_weights, e_I E 11 x_p2_weights), (a_t_weights, e_I E 11 x_t_weights), (a_p1_counts, e_I E 40 x_p1_counts), (a_t_spots, e_I E 5 x_t_spots), (a_t_needs, e_I E 5 x_t_needs), (a_t_roots, e_I E 40 x_t_roots), (a_p2_sightFrom, e_I E 6 x_p2_sightFrom), (a_p2_sightOut, e_I E 6 x_p2_sightOut)]
def f_X1_seek_39 (p3 : Int32) (p4 : Int32) (x_p2_sights : Int32) (x_p1_counts : Nat → Int32) (x_p2_sightFrom : Nat → Int32) (x_p2_sightOut : Nat → Int32)  : Nat → Int32 → Int32 → Int32 → Int32 → Int32 → Int32 → Int32 → Int32 → Int64 → Int64 → (Nat → Int32) → (Nat → Int32) → (Nat → Int32) → (Nat → Int32) → Option (Int32 × Int32 × Int32 × Int32 × Int32 × Int32 × Int32 × Int64 × Int64 × (Nat → Int32) × (Nat → Int32) × (Nat → Int32) × (Nat → Int32))
  | 0, _, _, _, _, _, _, _, _, _, _, _, _, _, _ => none
  | n_ + 1, v5, m_t_many, m_t_places, m_t_weightOfAll, m_t_manyWeighed, m_t_askedSpot, m_t_askedCount, m_t_ways, m_t_weighed, m_t_weighedAsked, m_t_weights, m_t_spots, m_t_needs, m_t_roots =>
    if (10 : Int32) < v5 then
      Option.bind (f_X1_findSpots m_t_places x_p1_counts m_t_spots m_t_needs) (fun r104 =>
      Option.bind (f_X1_findRoots r104.1 m_t_places x_p1_counts m_t_roots) (fun r109 =>
      Option.bind (f_X1_takeNeeds x_p2_sights r109 x_p2_sightFrom x_p2_sightOut r104.2.2) (fun r114 =>
      if r114.1 = 0 then
        some (r104.1, m_t_places, m_t_weightOfAll, m_t_manyWeighed, p3, p4, (0 : Int32), (0 : Int64), (0 : Int64), m_t_weights, r104.2.1, r114.2, r109)
      else
        Option.bind (f_X1_goOn 8 (0 : Int32) (1 : Int32) (1 : Int64) (1 : Int64) r104.1 m_t_places m_t_weightOfAll m_t_manyWeighed p3 p4 (0 : Int32) (0 : Int64) (0 : Int64) r114.2 m_t_weights r104.2.1 r109) (fun r125 =>
        some (r104.1, m_t_places, m_t_weightOfAll, m_t_manyWeighed, p3, p4, r125.1, r125.2.1, r125.2.2.1, m_t_weights, r104.2.1, r125.2.2.2, r109)))))
    else
      ck (inB v5 11) (
      if (m_t_weights (ix v5)) ≤ 0 then
        f_X1_seek_39 p3 p4 x_p2_sights x_p1_counts x_p2_sightFrom x_p2_sightOut n_ (v5 + (1 : Int32)) m_t_many m_t_places m_t_weightOfAll (m_t_manyWeighed + (0 : Int32)) m_t_askedSpot m_t_askedCount m_t_ways m_t_weighed m_t_weighedAsked m_t_weights m_t_spots m_t_needs m_t_roots
      else
        f_X1_seek_39 p3 p4 x_p2_sights x_p1_counts x_p2_sightFrom x_p2_sightOut n_ (v5 + (1 : Int32)) m_t_many m_t_places m_t_weightOfAll (m_t_manyWeighed + (1 : Int32)) m_t_askedSpot m_t_askedCount m_t_ways m_t_weighed m_t_weighedAsked m_t_weights m_t_spots m_t_needs m_t_roots)
def f_X1_seek (p3 : Int32) (p4 : Int32) (x_t_many : Int32) (x_t_askedSpot : Int32) (x_t_askedCount : Int32) (x_t_ways : Int32) (x_t_weighed : Int64) (x_t_weighedAsked : Int64) (x_p1_places : Int32) (x_p2_sights : Int32) (x_p2_weights : Nat → Int32) (x_t_weights : Nat → Int32) (x_p1_counts : Nat → Int32) (x_t_spots : Nat → Int32) (x_t_needs : Nat → Int32) (x_t_roots : Nat → Int32) (x_p2_sightFrom : Nat → Int32) (x_p2_sightOut : Nat → Int32) : Option (Int32 × Int32 × Int32 × Int32 × Int32 × Int32 × Int32 × Int64 × Int64 × (Nat → Int32) × (Nat → Int32) × (Nat → Int32) × (Nat → Int32)) :=
  Option.bind (f_X3_weightOfAll x_p2_weights) (fun r25 =>
  f_X1_seek_39 p3 p4 x_p2_sights x_p1_counts x_p2_sightFrom x_p2_sightOut FU (1 : Int32) x_t_many x_p1_places r25 (0 : Int32) x_t_askedSpot x_t_askedCount x_t_ways x_t_weighed x_t_weighedAsked (va_cpy x_p2_weights x_t_weights (ix (0 : Int32)) (ix (0 : Int32)) (ix (11 : Int32))) x_t_spots x_t_needs x_t_roots)
set_option maxHeartbeats 4000000 in
set_option maxRecDepth 100000 in
theorem c_X1_seek (l : Launch) (E : EN) (a_t a_p1 a_p2 a_p2_weights a_t_weights a_p1_counts a_t_spots a_t_needs a_t_roots a_p2_sightFrom a_p2_sightOut : Nat) (x_t_many : Int32) (x_t_places : Int32) (x_t_weightOfAll : Int32) (x_t_manyWeighed : Int32) (x_t_askedSpot : Int32) (x_t_askedCount : Int32) (x_t_ways : Int32) (x_t_weighed : Int64) (x_t_weighedAsked : Int64) (w_p1_ends : Value) (w_p1_comers : Value) (w_p1_leaders : Value) (w_p1_chains : Value) (x_p1_places : Int32) (x_p1_beginnings : Int32) (w_p2_text : Value) (x_p2_places : Int32) (x_p2_beginnings : Int32) (x_p2_courtCount : Int32) (x_p2_allowed : Int32) (x_p2_sights : Int32) (x_p2_kept : Int32) (x_p2_weights : Nat → Int32) (x_t_weights : Nat → Int32) (x_p1_counts : Nat → Int32) (x_t_spots : Nat → Int32) (x_t_needs : Nat → Int32) (x_t_roots : Nat → Int32) (x_p2_sightFrom : Nat → Int32) (x_p2_sightOut : Nat → Int32) (p3 : Int32) (p4 : Int32) (res : Int32 × Int32 × Int32 × Int32 × Int32 × Int32 × Int32 × Int64 × Int64 × (Nat → Int32) × (Nat → Int32) × (Nat → Int32) × (Nat → Int32)) (hf : f_X1_seek p3 p4 x_t_many x_t_askedSpot x_t_askedCount x_t_ways x_t_weighed x_t_weighedAsked x_p1_places x_p2_sights x_p2_weights x_t_weights x_p1_counts x_t_spots x_t_needs x_t_roots x_p2_sightFrom x_p2_sightOut = some res) : CtV l yX1_seek cX1_seek 6 49 1627 E [.ref a_t, .ref a_p1, .ref a_p2, .int p3, .int p4] (wd_X1_seek E a_t a_p1 a_p2 a_p2_weights a_t_weights a_p1_counts a_t_spots a_t_needs a_t_roots a_p2_sightFrom a_p2_sightOut x_t_many x_t_places x_t_weightOfAll x_t_manyWeighed x_t_askedSpot x_t_askedCount x_t_ways x_t_weighed x_t_weighedAsked w_p1_ends w_p1_comers w_p1_leaders w_p1_chains x_p1_places x_p1_beginnings w_p2_text x_p2_places x_p2_beginnings x_p2_courtCount x_p2_allowed x_p2_sights x_p2_kept x_p2_weights x_t_weights x_p1_counts x_t_spots x_t_needs x_t_roots x_p2_sightFrom x_p2_sightOut) (wd_X1_seek E a_t a_p1 a_p2 a_p2_weights a_t_weights a_p1_counts a_t_spots a_t_needs a_t_roots a_p2_sightFrom a_p2_sightOut res.1 res.2.1 res.2.2.1 res.2.2.2.1 res.2.2.2.2.1 res.2.2.2.2.2.1 res.2.2.2.2.2.2.1 res.2.2.2.2.2.2.2.1 res.2.2.2.2.2.2.2.2.1 w_p1_ends w_p1_comers w_p1_leaders w_p1_chains x_p1_places x_p1_beginnings w_p2_text x_p2_places x_p2_beginnings x_p2_courtCount x_p2_allowed x_p2_sights x_p2_kept x_p2_weights res.2.2.2.2.2.2.2.2.2.1 x_p1_counts res.2.2.2.2.2.2.2.2.2.2.1 res.2.2.2.2.2.2.2.2.2.2.2.1 res.2.2.2.2.2.2.2.2.2.2.2.2 x_p2_sightFrom x_p2_sightOut) := by
  refine CtV.of RX1 (by decide) rfl (Nat.le_of_ble_eq_true rfl) ?_
  intro p e s m below meth c A Q ls X hA hP hD hl fin
  have hx := X.1
  have hb := X.2.1
  have hl : lv_has ls 6 [(0, .ref a_t), (1, .ref a_p1), (2, .ref a_p2), (3, .int p3), (4, .int p4)] := hl
  have fin' : ∀ (fr0 : Int32) (fr1 : Int32) (fr2 : Int32) (fr3 : Int32) (fr4 : Int32) (fr5 : Int32) (fr6 : Int32) (fr7 : Int64) (fr8 : Int64) (fr9 : (Nat → Int32)) (fr10 : (Nat → Int32)) (fr11 : (Nat → Int32)) (fr12 : (Nat → Int32)), some (fr0, fr1, fr2, fr3, fr4, fr5, fr6, fr7, fr8, fr9, fr10, fr11, fr12) = some res → ∀ (pc : Nat) (ls : Array Slot) (H : Heap) (locs : List Loc), decode cX1_seek pc = .ok (.return_, 1) → va_P E.1 vwCl (wd_X1_seek E a_t a_p1 a_p2 a_p2_weights a_t_weights a_p1_counts a_t_spots a_t_needs a_t_roots a_p2_sightFrom a_p2_sightOut fr0 fr1 fr2 fr3 fr4 fr5 fr6 fr7 fr8 w_p1_ends w_p1_comers w_p1_leaders w_p1_chains x_p1_places x_p1_beginnings w_p2_text x_p2_places x_p2_beginnings x_p2_courtCount x_p2_allowed x_p2_sights x_p2_kept x_p2_weights fr9 x_p1_counts fr10 fr11 fr12 x_p2_sightFrom x_p2_sightOut) H → va_D A (wd_X1_seek E a_t a_p1 a_p2 a_p2_weights a_t_weights a_p1_counts a_t_spots a_t_needs a_t_roots a_p2_sightFrom a_p2_sightOut fr0 fr1 fr2 fr3 fr4 fr5 fr6 fr7 fr8 w_p1_ends w_p1_comers w_p1_leaders w_p1_chains x_p1_places x_p1_beginnings w_p2_text x_p2_places x_p2_beginnings x_p2_courtCount x_p2_allowed x_p2_sights x_p2_kept x_p2_weights fr9 x_p1_counts fr10 fr11 fr12 x_p2_sightFrom x_p2_sightOut) → va_S A s.heap H locs → W p l e (rmm 49 1627) s m ([.ref a_t, .ref a_p1, .ref a_p2, .int p3, .int p4] : List Value).toArray below meth c H locs 0 0 Q (F0 m pc ls []) := by
    intro fr0 fr1 fr2 fr3 fr4 fr5 fr6 fr7 fr8 fr9 fr10 fr11 fr12 he
    cases he
    exact fin
  have L39 : ∀ (n39 : Nat) (v5 : Int32) (m_t_many : Int32) (m_t_places : Int32) (m_t_weightOfAll : Int32) (m_t_manyWeighed : Int32) (m_t_askedSpot : Int32) (m_t_askedCount : Int32) (m_t_ways : Int32) (m_t_weighed : Int64) (m_t_weighedAsked : Int64) (m_t_weights : Nat → Int32) (m_t_spots : Nat → Int32) (m_t_needs : Nat → Int32) (m_t_roots : Nat → Int32), f_X1_seek_39 p3 p4 x_p2_sights x_p1_counts x_p2_sightFrom x_p2_sightOut n39 v5 m_t_many m_t_places m_t_weightOfAll m_t_manyWeighed m_t_askedSpot m_t_askedCount m_t_ways m_t_weighed m_t_weighedAsked m_t_weights m_t_spots m_t_needs m_t_roots = some res → ∀ (H : Heap) (locs : List Loc) (ls : Array Slot), va_P E.1 vwCl (wd_X1_seek E a_t a_p1 a_p2 a_p2_weights a_t_weights a_p1_counts a_t_spots a_t_needs a_t_roots a_p2_sightFrom a_p2_sightOut m_t_many m_t_places m_t_weightOfAll m_t_manyWeighed m_t_askedSpot m_t_askedCount m_t_ways m_t_weighed m_t_weighedAsked w_p1_ends w_p1_comers w_p1_leaders w_p1_chains x_p1_places x_p1_beginnings w_p2_text x_p2_places x_p2_beginnings x_p2_courtCount x_p2_allowed x_p2_sights x_p2_kept x_p2_weights m_t_weights x_p1_counts m_t_spots m_t_needs m_t_roots x_p2_sightFrom x_p2_sightOut) H → va_D A (wd_X1_seek E a_t a_p1 a_p2 a_p2_weights a_t_weights a_p1_counts a_t_spots a_t_needs a_t_roots a_p2_sightFrom a_p2_sightOut m_t_many m_t_places m_t_weightOfAll m_t_manyWeighed m_t_askedSpot m_t_askedCount m_t_ways m_t_weighed m_t_weighedAsked w_p1_ends w_p1_comers w_p1_leaders w_p1_chains x_p1_places x_p1_beginnings w_p2_text x_p2_places x_p2_beginnings x_p2_courtCount x_p2_allowed x_p2_sights x_p2_kept x_p2_weights m_t_weights x_p1_counts m_t_spots m_t_needs m_t_roots x_p2_sightFrom x_p2_sightOut) → va_S A s.heap H locs → lv_has ls 6 [(0, .ref a_t), (1, .ref a_p1), (2, .ref a_p2), (3, .int p3), (4, .int p4), (5, .int v5)] → W p l e (rmm 49 1627) s m ([.ref a_t, .ref a_p1, .ref a_p2, .int p3, .int p4] : List Value).toArray below meth c H locs 0 0 Q (F0 m 39 ls []) := by
    intro n39
    induction n39 with
    | zero => intro v5 m_t_many m_t_places m_t_weightOfAll m_t_manyWeighed m_t_askedSpot m_t_askedCount m_t_ways m_t_weighed m_t_weighedAsked m_t_weights m_t_spots m_t_needs m_t_roots hf; rw [f_X1_seek_39] at hf; cases hf
    | succ n39 ih39 =>
      intro v5 m_t_many m_t_places m_t_weightOfAll m_t_manyWeighed m_t_askedSpot m_t_askedCount m_t_ways m_t_weighed m_t_weighedAsked m_t_weights m_t_spots m_t_needs m_t_roots hf H locs ls hP hD hS hl
      rw [f_X1_seek_39] at hf
      refine lv_iload hx hb dX1_seek_39 (lv_at hl 5 rfl) ?_
      refine lv_bipush (v := (10 : Int32)) hx hb dX1_seek_41 (by decide) ?_
      refine lv_icmp_gt (tgt := 76) hx hb dX1_seek_43 (by decide) (fun c_43 => ?_) (fun c_43 => ?_)
      · have hf := if_t c_43 hf
        refine lv_aload_n hx hb dX1_seek_76 rfl (lv_at hl 0 rfl) ?_
        refine lv_iload_n hx hb dX1_seek_77 rfl (lv_at hl 3 rfl) ?_
        refine pf_X1_49 X hP hD hS 0 rfl (Nat.le_of_ble_eq_true rfl) (ws' := (wd_X1_seek E a_t a_p1 a_p2 a_p2_weights a_t_weights a_p1_counts a_t_spots a_t_needs a_t_roots a_p2_sightFrom a_p2_sightOut m_t_many m_t_places m_t_weightOfAll m_t_manyWeighed p3 m_t_askedCount m_t_ways m_t_weighed m_t_weighedAsked w_p1_ends w_p1_comers w_p1_leaders w_p1_chains x_p1_places x_p1_beginnings w_p2_text x_p2_places x_p2_beginnings x_p2_courtCount x_p2_allowed x_p2_sights x_p2_kept x_p2_weights m_t_weights x_p1_counts m_t_spots m_t_needs m_t_roots x_p2_sightFrom x_p2_sightOut)) rfl dX1_seek_78 (fun H locs hP hD hS => ?_)
        refine lv_aload_n hx hb dX1_seek_81 rfl (lv_at hl 0 rfl) ?_
        refine lv_iload hx hb dX1_seek_82 (lv_at hl 4 rfl) ?_
        refine pf_X1_52 X hP hD hS 0 rfl (Nat.le_of_ble_eq_true rfl) (ws' := (wd_X1_seek E a_t a_p1 a_p2 a_p2_weights a_t_weights a_p1_counts a_t_spots a_t_needs a_t_roots a_p2_sightFrom a_p2_sightOut m_t_many m_t_places m_t_weightOfAll m_t_manyWeighed p3 p4 m_t_ways m_t_weighed m_t_weighedAsked w_p1_ends w_p1_comers w_p1_leaders w_p1_chains x_p1_places x_p1_beginnings w_p2_text x_p2_places x_p2_beginnings x_p2_courtCount x_p2_allowed x_p2_sights x_p2_kept x_p2_weights m_t_weights x_p1_counts m_t_spots m_t_needs m_t_roots x_p2_sightFrom x_p2_sightOut)) rfl dX1_seek_84 (fun H locs hP hD hS => ?_)
        refine lv_aload_n hx hb dX1_seek_87 rfl (lv_at hl 0 rfl) ?_
        refine lv_iconst (v := (0 : Int32)) hx hb dX1_seek_88 (by decide) ?_
        refine pf_X1_55 X hP hD hS 0 rfl (Nat.le_of_ble_eq_true rfl) (ws' := (wd_X1_seek E a_t a_p1 a_p2 a_p2_weights a_t_weights a_p1_counts a_t_spots a_t_needs a_t_roots a_p2_sightFrom a_p2_sightOut m_t_many m_t_places m_t_weightOfAll m_t_manyWeighed p3 p4 (0 : Int32) m_t_weighed m_t_weighedAsked w_p1_ends w_p1_comers w_p1_leaders w_p1_chains x_p1_places x_p1_beginnings w_p2_text x_p2_places x_p2_beginnings x_p2_courtCount x_p2_allowed x_p2_sights x_p2_kept x_p2_weights m_t_weights x_p1_counts m_t_spots m_t_needs m_t_roots x_p2_sightFrom x_p2_sightOut)) rfl dX1_seek_89 (fun H locs hP hD hS => ?_)
        refine lv_aload_n hx hb dX1_seek_92 rfl (lv_at hl 0 rfl) ?_
        refine lv_lconst (v := (0 : Int64)) hx hb dX1_seek_93 (by decide) ?_
        refine pf_X1_58 X hP hD hS 0 rfl (Nat.le_of_ble_eq_true rfl) (ws' := (wd_X1_seek E a_t a_p1 a_p2 a_p2_weights a_t_weights a_p1_counts a_t_spots a_t_needs a_t_roots a_p2_sightFrom a_p2_sightOut m_t_many m_t_places m_t_weightOfAll m_t_manyWeighed p3 p4 (0 : Int32) (0 : Int64) m_t_weighedAsked w_p1_ends w_p1_comers w_p1_leaders w_p1_chains x_p1_places x_p1_beginnings w_p2_text x_p2_places x_p2_beginnings x_p2_courtCount x_p2_allowed x_p2_sights x_p2_kept x_p2_weights m_t_weights x_p1_counts m_t_spots m_t_needs m_t_roots x_p2_sightFrom x_p2_sightOut)) rfl dX1_seek_94 (fun H locs hP hD hS => ?_)
        refine lv_aload_n hx hb dX1_seek_97 rfl (lv_at hl 0 rfl) ?_
        refine lv_lconst (v := (0 : Int64)) hx hb dX1_seek_98 (by decide) ?_
        refine pf_X1_62 X hP hD hS 0 rfl (Nat.le_of_ble_eq_true rfl) (ws' := (wd_X1_seek E a_t a_p1 a_p2 a_p2_weights a_t_weights a_p1_counts a_t_spots a_t_needs a_t_roots a_p2_sightFrom a_p2_sightOut m_t_many m_t_places m_t_weightOfAll m_t_manyWeighed p3 p4 (0 : Int32) (0 : Int64) (0 : Int64) w_p1_ends w_p1_comers w_p1_leaders w_p1_chains x_p1_places x_p1_beginnings w_p2_text x_p2_places x_p2_beginnings x_p2_courtCount x_p2_allowed x_p2_sights x_p2_kept x_p2_weights m_t_weights x_p1_counts m_t_spots m_t_needs m_t_roots x_p2_sightFrom x_p2_sightOut)) rfl dX1_seek_99 (fun H locs hP hD hS => ?_)
        refine lv_aload_n hx hb dX1_seek_102 rfl (lv_at hl 0 rfl) ?_
        refine lv_aload_n hx hb dX1_seek_103 rfl (lv_at hl 1 rfl) ?_
        obtain ⟨r104, hc104, hf⟩ := bd_some hf
        refine cV_V X hA hP hD hS hl.1 (c_X1_findSpots l E a_t a_p1 a_p1_counts a_t_spots a_t_needs (.ref a_t_roots) (.ref a_t_weights) m_t_many m_t_places m_t_weightOfAll m_t_manyWeighed p3 p4 (0 : Int32) (0 : Int64) (0 : Int64) w_p1_ends w_p1_comers w_p1_leaders w_p1_chains x_p1_places x_p1_beginnings x_p1_counts m_t_spots m_t_needs r104 hc104) 1 k_569 mw_X1_findSpots hd_X1_findSpots ⟨Nat.le_of_ble_eq_true rfl, Nat.le_of_ble_eq_true rfl⟩ [0, 1, 5, 6, 7] [2, 3, 4, 8, 9, 10] [6, 7, 0, 1, 2, 8, 9, 10, 3, 4, 5] rfl rfl (wr := [2, 3, 4, 8, 9, 10].filterMap (fun i => (wd_X1_seek E a_t a_p1 a_p2 a_p2_weights a_t_weights a_p1_counts a_t_spots a_t_needs a_t_roots a_p2_sightFrom a_p2_sightOut m_t_many m_t_places m_t_weightOfAll m_t_manyWeighed p3 p4 (0 : Int32) (0 : Int64) (0 : Int64) w_p1_ends w_p1_comers w_p1_leaders w_p1_chains x_p1_places x_p1_beginnings w_p2_text x_p2_places x_p2_beginnings x_p2_courtCount x_p2_allowed x_p2_sights x_p2_kept x_p2_weights m_t_weights x_p1_counts m_t_spots m_t_needs m_t_roots x_p2_sightFrom x_p2_sightOut)[i]?)) rfl rfl rfl 1 0 rfl rfl rfl rfl rfl (Nat.le_of_ble_eq_true rfl) rfl (ws' := (wd_X1_seek E a_t a_p1 a_p2 a_p2_weights a_t_weights a_p1_counts a_t_spots a_t_needs a_t_roots a_p2_sightFrom a_p2_sightOut r104.1 m_t_places m_t_weightOfAll m_t_manyWeighed p3 p4 (0 : Int32) (0 : Int64) (0 : Int64) w_p1_ends w_p1_comers w_p1_leaders w_p1_chains x_p1_places x_p1_beginnings w_p2_text x_p2_places x_p2_beginnings x_p2_courtCount x_p2_allowed x_p2_sights x_p2_kept x_p2_weights m_t_weights x_p1_counts r104.2.1 r104.2.2 m_t_roots x_p2_sightFrom x_p2_sightOut)) rfl ⟨Nat.le_of_ble_eq_true rfl, Nat.le_of_ble_eq_true rfl⟩ dX1_seek_104 (fun H locs hP hD hS => ?_)
        refine lv_aload_n hx hb dX1_seek_107 rfl (lv_at hl 0 rfl) ?_
        refine lv_aload_n hx hb dX1_seek_108 rfl (lv_at hl 1 rfl) ?_
        obtain ⟨r109, hc109, hf⟩ := bd_some hf
        refine cV_V X hA hP hD hS hl.1 (c_X1_findRoots l E a_t a_p1 a_p1_counts a_t_roots (.ref a_t_spots) (.ref a_t_needs) (.ref a_t_weights) r104.1 m_t_places m_t_weightOfAll m_t_manyWeighed p3 p4 (0 : Int32) (0 : Int64) (0 : Int64) w_p1_ends w_p1_comers w_p1_leaders w_p1_chains x_p1_places x_p1_beginnings x_p1_counts m_t_roots r109 hc109) 1 k_573 mw_X1_findRoots hd_X1_findRoots ⟨Nat.le_of_ble_eq_true rfl, Nat.le_of_ble_eq_true rfl⟩ [0, 1, 5, 8] [2, 3, 4, 6, 7, 9, 10] [7, 8, 0, 1, 2, 9, 3, 4, 10, 5, 6] rfl rfl (wr := [2, 3, 4, 6, 7, 9, 10].filterMap (fun i => (wd_X1_seek E a_t a_p1 a_p2 a_p2_weights a_t_weights a_p1_counts a_t_spots a_t_needs a_t_roots a_p2_sightFrom a_p2_sightOut r104.1 m_t_places m_t_weightOfAll m_t_manyWeighed p3 p4 (0 : Int32) (0 : Int64) (0 : Int64) w_p1_ends w_p1_comers w_p1_leaders w_p1_chains x_p1_places x_p1_beginnings w_p2_text x_p2_places x_p2_beginnings x_p2_courtCount x_p2_allowed x_p2_sights x_p2_kept x_p2_weights m_t_weights x_p1_counts r104.2.1 r104.2.2 m_t_roots x_p2_sightFrom x_p2_sightOut)[i]?)) rfl rfl rfl 1 0 rfl rfl rfl rfl rfl (Nat.le_of_ble_eq_true rfl) rfl (ws' := (wd_X1_seek E a_t a_p1 a_p2 a_p2_weights a_t_weights a_p1_counts a_t_spots a_t_needs a_t_roots a_p2_sightFrom a_p2_sightOut r104.1 m_t_places m_t_weightOfAll m_t_manyWeighed p3 p4 (0 : Int32) (0 : Int64) (0 : Int64) w_p1_ends w_p1_comers w_p1_leaders w_p1_chains x_p1_places x_p1_beginnings w_p2_text x_p2_places x_p2_beginnings x_p2_courtCount x_p2_allowed x_p2_sights x_p2_kept x_p2_weights m_t_weights x_p1_counts r104.2.1 r104.2.2 r109 x_p2_sightFrom x_p2_sightOut)) rfl ⟨Nat.le_of_ble_eq_true rfl, Nat.le_of_ble_eq_true rfl⟩ dX1_seek_109 (fun H locs hP hD hS => ?_)
        refine lv_aload_n hx hb dX1_seek_112 rfl (lv_at hl 0 rfl) ?_
        refine lv_aload_n hx hb dX1_seek_113 rfl (lv_at hl 2 rfl) ?_
        obtain ⟨r114, hc114, hf⟩ := bd_some hf
        refine cV_I X hA hP hD hS hl.1 (c_X1_takeNeeds l E a_t a_p2 a_t_roots a_p2_sightFrom a_p2_sightOut a_t_needs (.ref a_t_spots) (.ref a_t_weights) r104.1 m_t_places m_t_weightOfAll m_t_manyWeighed p3 p4 (0 : Int32) (0 : Int64) (0 : Int64) w_p2_text (.ref a_p2_weights) x_p2_places x_p2_beginnings x_p2_courtCount x_p2_allowed x_p2_sights x_p2_kept r109 x_p2_sightFrom x_p2_sightOut r104.2.2 r114 hc114) 1 k_581 mw_X1_takeNeeds hd_X1_takeNeeds ⟨Nat.le_of_ble_eq_true rfl, Nat.le_of_ble_eq_true rfl⟩ [0, 2, 8, 9, 10, 7] [1, 3, 4, 5, 6] [5, 0, 6, 1, 2, 3, 4, 10, 7, 8, 9] rfl rfl (wr := [1, 3, 4, 5, 6].filterMap (fun i => (wd_X1_seek E a_t a_p1 a_p2 a_p2_weights a_t_weights a_p1_counts a_t_spots a_t_needs a_t_roots a_p2_sightFrom a_p2_sightOut r104.1 m_t_places m_t_weightOfAll m_t_manyWeighed p3 p4 (0 : Int32) (0 : Int64) (0 : Int64) w_p1_ends w_p1_comers w_p1_leaders w_p1_chains x_p1_places x_p1_beginnings w_p2_text x_p2_places x_p2_beginnings x_p2_courtCount x_p2_allowed x_p2_sights x_p2_kept x_p2_weights m_t_weights x_p1_counts r104.2.1 r104.2.2 r109 x_p2_sightFrom x_p2_sightOut)[i]?)) rfl rfl rfl 1 0 rfl rfl rfl rfl rfl (Nat.le_of_ble_eq_true rfl) rfl (ws' := (wd_X1_seek E a_t a_p1 a_p2 a_p2_weights a_t_weights a_p1_counts a_t_spots a_t_needs a_t_roots a_p2_sightFrom a_p2_sightOut r104.1 m_t_places m_t_weightOfAll m_t_manyWeighed p3 p4 (0 : Int32) (0 : Int64) (0 : Int64) w_p1_ends w_p1_comers w_p1_leaders w_p1_chains x_p1_places x_p1_beginnings w_p2_text x_p2_places x_p2_beginnings x_p2_courtCount x_p2_allowed x_p2_sights x_p2_kept x_p2_weights m_t_weights x_p1_counts r104.2.1 r114.2 r109 x_p2_sightFrom x_p2_sightOut)) rfl ⟨Nat.le_of_ble_eq_true rfl, Nat.le_of_ble_eq_true rfl⟩ dX1_seek_114 (fun H locs hP hD hS => ?_)
        refine lv_if_eq (tgt := 128) hx hb dX1_seek_117 (by decide) (fun c_117 => ?_) (fun c_117 => ?_)
        · have hf := if_t c_117 hf
          exact fin' _ _ _ _ _ _ _ _ _ _ _ _ _ hf 128 ls H locs dX1_seek_128 hP hD hS
        · have hf := if_f c_117 hf
          refine lv_aload_n hx hb dX1_seek_120 rfl (lv_at hl 0 rfl) ?_
          refine lv_iconst (v := (0 : Int32)) hx hb dX1_seek_121 (by decide) ?_
          refine lv_iconst (v := (1 : Int32)) hx hb dX1_seek_122 (by decide) ?_
          refine lv_lconst (v := (1 : Int64)) hx hb dX1_seek_123 (by decide) ?_
          refine lv_lconst (v := (1 : Int64)) hx hb dX1_seek_124 (by decide) ?_
          obtain ⟨r125, hc125, hf⟩ := bd_some hf
          refine cV_V X hA hP hD hS hl.1 (c_X1_goOn l E a_t a_t_needs a_t_weights a_t_spots a_t_roots 8 r104.1 m_t_places m_t_weightOfAll m_t_manyWeighed p3 p4 (0 : Int32) (0 : Int64) (0 : Int64) r114.2 m_t_weights r104.2.1 r109 (0 : Int32) (1 : Int32) (1 : Int64) (1 : Int64) r125 hc125) 4 k_585 mw_X1_goOn hd_X1_goOn ⟨Nat.le_of_ble_eq_true rfl, Nat.le_of_ble_eq_true rfl⟩ [0, 7, 4, 6, 8] [1, 2, 3, 5, 9, 10] [6, 0, 1, 2, 8, 3, 9, 7, 10, 4, 5] rfl rfl (wr := [1, 2, 3, 5, 9, 10].filterMap (fun i => (wd_X1_seek E a_t a_p1 a_p2 a_p2_weights a_t_weights a_p1_counts a_t_spots a_t_needs a_t_roots a_p2_sightFrom a_p2_sightOut r104.1 m_t_places m_t_weightOfAll m_t_manyWeighed p3 p4 (0 : Int32) (0 : Int64) (0 : Int64) w_p1_ends w_p1_comers w_p1_leaders w_p1_chains x_p1_places x_p1_beginnings w_p2_text x_p2_places x_p2_beginnings x_p2_courtCount x_p2_allowed x_p2_sights x_p2_kept x_p2_weights m_t_weights x_p1_counts r104.2.1 r114.2 r109 x_p2_sightFrom x_p2_sightOut)[i]?)) rfl rfl rfl 1 0 rfl rfl rfl rfl rfl (Nat.le_of_ble_eq_true rfl) rfl (ws' := (wd_X1_seek E a_t a_p1 a_p2 a_p2_weights a_t_weights a_p1_counts a_t_spots a_t_needs a_t_roots a_p2_sightFrom a_p2_sightOut r104.1 m_t_places m_t_weightOfAll m_t_manyWeighed p3 p4 r125.1 r125.2.1 r125.2.2.1 w_p1_ends w_p1_comers w_p1_leaders w_p1_chains x_p1_places x_p1_beginnings w_p2_text x_p2_places x_p2_beginnings x_p2_courtCount x_p2_allowed x_p2_sights x_p2_kept x_p2_weights m_t_weights x_p1_counts r104.2.1 r125.2.2.2 r109 x_p2_sightFrom x_p2_sightOut)) rfl ⟨Nat.le_of_ble_eq_true rfl, Nat.le_of_ble_eq_true rfl⟩ dX1_seek_125 (fun H locs hP hD hS => ?_)
          exact fin' _ _ _ _ _ _ _ _ _ _ _ _ _ hf 128 ls H locs dX1_seek_128 hP hD hS
      · have hf := if_f c_43 hf
        refine lv_aload_n hx hb dX1_seek_46 rfl (lv_at hl 0 rfl) ?_
        refine lv_dup hx hb dX1_seek_47 rfl ?_
        refine gf_X1_46 X hP 0 rfl rfl dX1_seek_48 ?_
        refine lv_aload_n hx hb dX1_seek_51 rfl (lv_at hl 0 rfl) ?_
        refine gf_X1_21 X hP 0 rfl rfl dX1_seek_52 ?_
        refine lv_iload hx hb dX1_seek_55 (lv_at hl 5 rfl) ?_
        obtain ⟨hi57, hf⟩ := ck_some hf
        refine r_iald X hP 4 rfl hi57 dX1_seek_57 ?_
        refine lv_if_le (tgt := 65) hx hb dX1_seek_58 (by decide) (fun c_58 => ?_) (fun c_58 => ?_)
        · have hf := if_t c_58 hf
          refine lv_iconst (v := (0 : Int32)) hx hb dX1_seek_65 (by decide) ?_
          refine lv_iadd hx hb dX1_seek_66 ?_
          refine pf_X1_46 X hP hD hS 0 rfl (Nat.le_of_ble_eq_true rfl) (ws' := (wd_X1_seek E a_t a_p1 a_p2 a_p2_weights a_t_weights a_p1_counts a_t_spots a_t_needs a_t_roots a_p2_sightFrom a_p2_sightOut m_t_many m_t_places m_t_weightOfAll (m_t_manyWeighed + (0 : Int32)) m_t_askedSpot m_t_askedCount m_t_ways m_t_weighed m_t_weighedAsked w_p1_ends w_p1_comers w_p1_leaders w_p1_chains x_p1_places x_p1_beginnings w_p2_text x_p2_places x_p2_beginnings x_p2_courtCount x_p2_allowed x_p2_sights x_p2_kept x_p2_weights m_t_weights x_p1_counts m_t_spots m_t_needs m_t_roots x_p2_sightFrom x_p2_sightOut)) rfl dX1_seek_67 (fun H locs hP hD hS => ?_)
          refine lv_iinc (v := (v5 + (1 : Int32))) (lv' := [(5, .int (v5 + (1 : Int32))), (0, .ref a_t), (1, .ref a_p1), (2, .ref a_p2), (3, .int p3), (4, .int p4)]) hx hb dX1_seek_70 hl (k := 5) rfl rfl (by decide) rfl (fun ls hl => ?_)
          refine lv_goto (tgt := 39) hx hb dX1_seek_73 (by decide) ?_
          exact ih39 (v5 + (1 : Int32)) m_t_many m_t_places m_t_weightOfAll (m_t_manyWeighed + (0 : Int32)) m_t_askedSpot m_t_askedCount m_t_ways m_t_weighed m_t_weighedAsked m_t_weights m_t_spots m_t_needs m_t_roots hf H locs ls hP hD hS (lv_sub hl [1, 2, 3, 4, 5, 0] rfl)
        · have hf := if_f c_58 hf
          refine lv_iconst (v := (1 : Int32)) hx hb dX1_seek_61 (by decide) ?_
          refine lv_goto (tgt := 66) hx hb dX1_seek_62 (by decide) ?_
          refine lv_iadd hx hb dX1_seek_66 ?_
          refine pf_X1_46 X hP hD hS 0 rfl (Nat.le_of_ble_eq_true rfl) (ws' := (wd_X1_seek E a_t a_p1 a_p2 a_p2_weights a_t_weights a_p1_counts a_t_spots a_t_needs a_t_roots a_p2_sightFrom a_p2_sightOut m_t_many m_t_places m_t_weightOfAll (m_t_manyWeighed + (1 : Int32)) m_t_askedSpot m_t_askedCount m_t_ways m_t_weighed m_t_weighedAsked w_p1_ends w_p1_comers w_p1_leaders w_p1_chains x_p1_places x_p1_beginnings w_p2_text x_p2_places x_p2_beginnings x_p2_courtCount x_p2_allowed x_p2_sights x_p2_kept x_p2_weights m_t_weights x_p1_counts m_t_spots m_t_needs m_t_roots x_p2_sightFrom x_p2_sightOut)) rfl dX1_seek_67 (fun H locs hP hD hS => ?_)
          refine lv_iinc (v := (v5 + (1 : Int32))) (lv' := [(5, .int (v5 + (1 : Int32))), (0, .ref a_t), (1, .ref a_p1), (2, .ref a_p2), (3, .int p3), (4, .int p4)]) hx hb dX1_seek_70 hl (k := 5) rfl rfl (by decide) rfl (fun ls hl => ?_)
          refine lv_goto (tgt := 39) hx hb dX1_seek_73 (by decide) ?_
          exact ih39 (v5 + (1 : Int32)) m_t_many m_t_places m_t_weightOfAll (m_t_manyWeighed + (1 : Int32)) m_t_askedSpot m_t_askedCount m_t_ways m_t_weighed m_t_weighedAsked m_t_weights m_t_spots m_t_needs m_t_roots hf H locs ls hP hD hS (lv_sub hl [1, 2, 3, 4, 5, 0] rfl)
  have hS : va_S A s.heap s.heap [] := va_S.rf
  obtain ⟨H, hH9⟩ : ∃ z, z = s.heap := ⟨_, rfl⟩
  obtain ⟨locs, hL9⟩ : ∃ z : List Loc, z = [] := ⟨_, rfl⟩
  rw [← hL9]
  rw [← hL9] at hS
  have hP : va_P E.1 vwCl (wd_X1_seek E a_t a_p1 a_p2 a_p2_weights a_t_weights a_p1_counts a_t_spots a_t_needs a_t_roots a_p2_sightFrom a_p2_sightOut x_t_many x_t_places x_t_weightOfAll x_t_manyWeighed x_t_askedSpot x_t_askedCount x_t_ways x_t_weighed x_t_weighedAsked w_p1_ends w_p1_comers w_p1_leaders w_p1_chains x_p1_places x_p1_beginnings w_p2_text x_p2_places x_p2_beginnings x_p2_courtCount x_p2_allowed x_p2_sights x_p2_kept x_p2_weights x_t_weights x_p1_counts x_t_spots x_t_needs x_t_roots x_p2_sightFrom x_p2_sightOut) H := by rw [hH9]; exact hP
  have hS : va_S A s.heap H locs := by rw [hH9]; exact hS
  suffices hgoal : W p l e (rmm 49 1627) s m ([.ref a_t, .ref a_p1, .ref a_p2, .int p3, .int p4] : List Value).toArray below meth c H locs 0 0 Q (F0 m 0 ls []) by rw [hH9] at hgoal; exact hgoal
  rw [f_X1_seek] at hf
  refine lv_aload_n hx hb dX1_seek_0 rfl (lv_at hl 0 rfl) ?_
  refine lv_aload_n hx hb dX1_seek_1 rfl (lv_at hl 1 rfl) ?_
  refine gf_X1_24 X hP 1 rfl rfl dX1_seek_2 ?_
  refine pf_X1_30 X hP hD hS 0 rfl (Nat.le_of_ble_eq_true rfl) (ws' := (wd_X1_seek E a_t a_p1 a_p2 a_p2_weights a_t_weights a_p1_counts a_t_spots a_t_needs a_t_roots a_p2_sightFrom a_p2_sightOut x_t_many x_p1_places x_t_weightOfAll x_t_manyWeighed x_t_askedSpot x_t_askedCount x_t_ways x_t_weighed x_t_weighedAsked w_p1_ends w_p1_comers w_p1_leaders w_p1_chains x_p1_places x_p1_beginnings w_p2_text x_p2_places x_p2_beginnings x_p2_courtCount x_p2_allowed x_p2_sights x_p2_kept x_p2_weights x_t_weights x_p1_counts x_t_spots x_t_needs x_t_roots x_p2_sightFrom x_p2_sightOut)) rfl dX1_seek_5 (fun H locs hP hD hS => ?_)
  refine lv_aload_n hx hb dX1_seek_8 rfl (lv_at hl 2 rfl) ?_
  refine gf_X1_31 X hP 2 rfl rfl dX1_seek_9 ?_
  refine lv_iconst (v := (0 : Int32)) hx hb dX1_seek_12 (by decide) ?_
  refine lv_aload_n hx hb dX1_seek_13 rfl (lv_at hl 0 rfl) ?_
  refine gf_X1_21 X hP 0 rfl rfl dX1_seek_14 ?_
  refine lv_iconst (v := (0 : Int32)) hx hb dX1_seek_17 (by decide) ?_
  refine lv_bipush (v := (11 : Int32)) hx hb dX1_seek_18 (by decide) ?_
  refine r_copyI X hl.1 k_567 hP hD hS 3 4 rfl rfl (by decide) (Nat.le_of_ble_eq_true rfl) (Nat.le_of_ble_eq_true rfl) (ws' := (wd_X1_seek E a_t a_p1 a_p2 a_p2_weights a_t_weights a_p1_counts a_t_spots a_t_needs a_t_roots a_p2_sightFrom a_p2_sightOut x_t_many x_p1_places x_t_weightOfAll x_t_manyWeighed x_t_askedSpot x_t_askedCount x_t_ways x_t_weighed x_t_weighedAsked w_p1_ends w_p1_comers w_p1_leaders w_p1_chains x_p1_places x_p1_beginnings w_p2_text x_p2_places x_p2_beginnings x_p2_courtCount x_p2_allowed x_p2_sights x_p2_kept x_p2_weights (va_cpy x_p2_weights x_t_weights (ix (0 : Int32)) (ix (0 : Int32)) (ix (11 : Int32))) x_p1_counts x_t_spots x_t_needs x_t_roots x_p2_sightFrom x_p2_sightOut)) rfl dX1_seek_20 (fun H locs hP hD hS => ?_)
  refine lv_aload_n hx hb dX1_seek_23 rfl (lv_at hl 0 rfl) ?_
  refine lv_aload_n hx hb dX1_seek_24 rfl (lv_at hl 2 rfl) ?_
  obtain ⟨r25, hc25, hf⟩ := bd_some hf
  refine cV_I X hA hP hD hS hl.1 (c_X3_weightOfAll l E a_p2 a_p2_weights w_p2_text (.ref a_p2_sightFrom) (.ref a_p2_sightOut) x_p2_places x_p2_beginnings x_p2_courtCount x_p2_allowed x_p2_sights x_p2_kept x_p2_weights r25 hc25) 0 k_568 mw_X3_weightOfAll hd_X3_weightOfAll ⟨Nat.le_of_ble_eq_true rfl, Nat.le_of_ble_eq_true rfl⟩ [2, 3] [0, 1, 4, 5, 6, 7, 8, 9, 10] [0, 1, 9, 10, 2, 3, 4, 5, 6, 7, 8] rfl rfl (wr := [0, 1, 4, 5, 6, 7, 8, 9, 10].filterMap (fun i => (wd_X1_seek E a_t a_p1 a_p2 a_p2_weights a_t_weights a_p1_counts a_t_spots a_t_needs a_t_roots a_p2_sightFrom a_p2_sightOut x_t_many x_p1_places x_t_weightOfAll x_t_manyWeighed x_t_askedSpot x_t_askedCount x_t_ways x_t_weighed x_t_weighedAsked w_p1_ends w_p1_comers w_p1_leaders w_p1_chains x_p1_places x_p1_beginnings w_p2_text x_p2_places x_p2_beginnings x_p2_courtCount x_p2_allowed x_p2_sights x_p2_kept x_p2_weights (va_cpy x_p2_weights x_t_weights (ix (0 : Int32)) (ix (0 : Int32)) (ix (11 : Int32))) x_p1_counts x_t_spots x_t_needs x_t_roots x_p2_sightFrom x_p2_sightOut)[i]?)) rfl rfl rfl 3 0 rfl rfl rfl rfl rfl (Nat.le_of_ble_eq_true rfl) rfl (ws' := (wd_X1_seek E a_t a_p1 a_p2 a_p2_weights a_t_weights a_p1_counts a_t_spots a_t_needs a_t_roots a_p2_sightFrom a_p2_sightOut x_t_many x_p1_places x_t_weightOfAll x_t_manyWeighed x_t_askedSpot x_t_askedCount x_t_ways x_t_weighed x_t_weighedAsked w_p1_ends w_p1_comers w_p1_leaders w_p1_chains x_p1_places x_p1_beginnings w_p2_text x_p2_places x_p2_beginnings x_p2_courtCount x_p2_allowed x_p2_sights x_p2_kept x_p2_weights (va_cpy x_p2_weights x_t_weights (ix (0 : Int32)) (ix (0 : Int32)) (ix (11 : Int32))) x_p1_counts x_t_spots x_t_needs x_t_roots x_p2_sightFrom x_p2_sightOut)) rfl ⟨Nat.le_of_ble_eq_true rfl, Nat.le_of_ble_eq_true rfl⟩ dX1_seek_25 (fun H locs hP hD hS => ?_)
  refine pf_X1_44 X hP hD hS 0 rfl (Nat.le_of_ble_eq_true rfl) (ws' := (wd_X1_seek E a_t a_p1 a_p2 a_p2_weights a_t_weights a_p1_counts a_t_spots a_t_needs a_t_roots a_p2_sightFrom a_p2_sightOut x_t_many x_p1_places r25 x_t_manyWeighed x_t_askedSpot x_t_askedCount x_t_ways x_t_weighed x_t_weighedAsked w_p1_ends w_p1_comers w_p1_leaders w_p1_chains x_p1_places x_p1_beginnings w_p2_text x_p2_places x_p2_beginnings x_p2_courtCount x_p2_allowed x_p2_sights x_p2_kept x_p2_weights (va_cpy x_p2_weights x_t_weights (ix (0 : Int32)) (ix (0 : Int32)) (ix (11 : Int32))) x_p1_counts x_t_spots x_t_needs x_t_roots x_p2_sightFrom x_p2_sightOut)) rfl dX1_seek_28 (fun H locs hP hD hS => ?_)
  refine lv_aload_n hx hb dX1_seek_31 rfl (lv_at hl 0 rfl) ?_
  refine lv_iconst (v := (0 : Int32)) hx hb dX1_seek_32 (by decide) ?_
  refine pf_X1_46 X hP hD hS 0 rfl (Nat.le_of_ble_eq_true rfl) (ws' := (wd_X1_seek E a_t a_p1 a_p2 a_p2_weights a_t_weights a_p1_counts a_t_spots a_t_needs a_t_roots a_p2_sightFrom a_p2_sightOut x_t_many x_p1_places r25 (0 : Int32) x_t_askedSpot x_t_askedCount x_t_ways x_t_weighed x_t_weighedAsked w_p1_ends w_p1_comers w_p1_leaders w_p1_chains x_p1_places x_p1_beginnings w_p2_text x_p2_places x_p2_beginnings x_p2_courtCount x_p2_allowed x_p2_sights x_p2_kept x_p2_weights (va_cpy x_p2_weights x_t_weights (ix (0 : Int32)) (ix (0 : Int32)) (ix (11 : Int32))) x_p1_counts x_t_spots x_t_needs x_t_roots x_p2_sightFrom x_p2_sightOut)) rfl dX1_seek_33 (fun H locs hP hD hS => ?_)
  refine lv_iconst (v := (1 : Int32)) hx hb dX1_seek_36 (by decide) ?_
  refine lv_istore (lv' := [(5, .int (1 : Int32)), (0, .ref a_t), (1, .ref a_p1), (2, .ref a_p2), (3, .int p3), (4, .int p4)]) hx hb dX1_seek_37 hl (by decide) rfl (fun ls hl => ?_)
  exact L39 FU (1 : Int32) x_t_many x_p1_places r25 (0 : Int32) x_t_askedSpot x_t_askedCount x_t_ways x_t_weighed x_t_weighedAsked (va_cpy x_p2_weights x_t_weights (ix (0 : Int32)) (ix (0 : Int32)) (ix (11 : Int32))) x_t_spots x_t_needs x_t_roots hf H locs ls hP hD hS (lv_sub hl [1, 2, 3, 4, 5, 0] rfl)
