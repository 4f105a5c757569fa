section W4
variable {P B C : Nat} {tx : Nat → Int32} {tk : Nat → Nat}
theorem PG.cq (h : PG P B C tx tk) : ∀ q, q < P → q ∉ zl (ctf tk C) P → 1 ≤ ctf tk C q ∧ ctf tk C q ≤ 10 := fun q hq hn => by
  refine ⟨?_, cOf_le h.2.2.2.2.2.2.2.1⟩
  rcases Nat.eq_zero_or_pos (ctf tk C q) with e | e
  · exact absurd (zl_mem.mpr ⟨hq, e⟩) hn
  · exact e
theorem t_write (h : PG P B C tx tk) {wt : Nat → Int32} {w : Nat → Nat} (hw : WG wt w) {A : Int32} (hA : A ≠ 0 ∧ A &&& (-2047 : Int32) = 0) (x y u : Int32) (rp rb : Int32) (r1 : Nat → Int32) (e1 e2 e3 e4 e5 e6 e7 e8 e9 e10 : Int32) (cx tr kp : Nat → Int32) (op : Int32) (m1 m2 : Nat → Int32) :
    ∃ an v v', f_X5_write x y u (nI P) (nI B) (nI C) A tx rp rb r1 e1 e2 e3 e4 e5 e6 e7 e8 e9 e10 cx tr kp = some (an, v) ∧ f_X6_write x y u (nI P) (nI B) (nI C) A op tx m1 m2 wt = some (an, v') := by
  obtain ⟨hs, hP1, hP, hB1, hB, hBP, hC1, hC, hk, h4, h5⟩ := id h
  obtain ⟨a, rfl, ha, ha0, hb0⟩ := al_of hA.1 hA.2
  have key : (x = 3 → ∃ z, z < P ∧ y = nI z) → ∃ an v v', f_X5_write_18 x y u (nI P) (nI B) (nI C) (nI a) tx rp rb r1 e1 e2 e3 e4 e5 e6 e7 e8 e9 e10 cx tr kp = some (an, v) ∧ f_X6_write_15 x y u (nI P) (nI B) (nI C) (nI a) tx wt op m1 m2 = some (an, v') := by
    intro hy
    rw [f_X5_write_18, f_X6_write_15, s_in, s_howMany _ _ hP, s_many _ _ hP]
    simp only [bd_s, ite10]
    rcases in_cases x (n := 3) (by decide) with ⟨a1, a2, a3, wk, hwk, rfl⟩ | ⟨a1, a2⟩
    · have a2' : nI wk ≤ (3 : Int32) := a2
      rw [if_neg a3, if_pos a2', if_pos (And.intro a1 a2')]
      by_cases h63 : cnS tx 63 P = 0
      · rw [if_pos ((nI_le0 (by omega)).mpr h63), if_pos ((nI_le0 (by omega)).mpr h63)]
        have hlen : (zl (ctf tk C) P).length = cnS tx 42 P := by rw [h.zl42 hC1]; omega
        have hl4 : (zl (ctf tk C) P).length ≤ 4 := by omega
        have hz5 : (zl (ctf tk C) P).length ≤ 5 := by omega
        obtain ⟨z, hz⟩ : ∃ z, wk = 3 → y = nI z ∧ z < P := by
          by_cases e : wk = 3
          · obtain ⟨z, z1, z2⟩ := hy (by rw [e]; rfl)
            exact ⟨z, fun _ => ⟨z2, z1⟩⟩
          · exact ⟨0, fun q => absurd q e⟩
        rw [s_read hs.p hP, bd_s, s_lay hs.p hP hC hz5, bd_s]
        dsimp only
        obtain ⟨q1, q2, q3, q4, q5, q6, q7, q8, ways, rank, cx', tr', kp', k1, k2⟩ := s_seek (sf := false) (zi := y) (z := z) hP hB1 hB hBP ha ha0 hb0 (AR_fill (ctf tk C) r1 P) (fun q _ => cOf_le hC) hl4 hwk hz (fun q => by cases q) cx tr kp
        have k1' : f_X4_seek (nI a) (nI wk) y (0 : Int32) (nI P) (nI B) (fa_fill (fun j => nI (ctf tk C j)) r1 P) cx tr kp = _ := k1
        rw [k1', bd_s]
        dsimp only
        obtain ⟨v, g1⟩ := s_write_57 (a := a) (c := ctf tk C) (on := opf (ctf tk C) m2 P) (z := z) (zi := y) hP hBP hw hz5 h.cq (opf_at (o0 := m2)) ha hwk hz u FU 0 (fa_fill (fun j => nI (ctf tk C j)) m1 P) sz (-6) (Nat.zero_le _) (FU_ge (by have := pow5 hz5; omega)) (fun q hq _ => AR_fill _ _ _ q hq) rfl (Or.inl ⟨rfl, rfl⟩)
        have g1' : f_X6_write_57 (nI wk) y u (nI P) (nI B) (nI a) wt FU (0 : Int32) (-6 : Int32) (0 : Int32) (nI (zl (ctf tk C) P).length) (fa_fill (fun j => nI (ctf tk C j)) m1 P) (opf (ctf tk C) m2 P) = _ := g1
        rw [g1']
        by_cases eu : u = -1
        · rw [if_pos eu, if_pos eu, k2.1]
          exact ⟨_, _, _, rfl, rfl⟩
        · rw [if_neg eu, if_neg eu, s_writtenAt hP hlen hl4 (SM_okS _ _) k2 u, bd_s]
          exact ⟨_, _, _, rfl, rfl⟩
      · have l63 : cnS tx 63 P ≤ 5 := h5
        rw [if_neg (fun q => h63 ((nI_le0 (by omega)).mp q)), if_neg (fun q => h63 ((nI_le0 (by omega)).mp q))]
        exact ⟨_, _, _, rfl, rfl⟩
    · rw [if_neg (show ¬ ((0 : Int32) ≤ x ∧ x ≤ 3) from a1)]
      rcases a2 with a2 | ⟨a2, a3⟩
      · rw [if_pos a2]; exact ⟨_, _, _, rfl, rfl⟩
      · rw [if_neg a2, if_neg (show ¬ x ≤ 3 from a3)]; exact ⟨_, _, _, rfl, rfl⟩
  rw [f_X5_write, f_X6_write, s_has (by omega), s_isPlace hP1 (by omega)]
  simp only [bd_s, ite10]
  by_cases e : x = 3
  · rw [if_pos e, if_pos e]
    by_cases hy : ∃ j, j < P ∧ y = nI j
    · rw [if_pos hy, if_pos hy]; exact key (fun _ => hy)
    · rw [if_neg hy, if_neg hy]; exact ⟨_, _, _, rfl, rfl⟩
  · rw [if_neg e, if_neg e]; exact key (fun q => absurd q e)
theorem t_soonest (h : PG P B C tx tk) {wt : Nat → Int32} {w : Nat → Nat} (hw : WG wt w) {A : Int32} (hA : A ≠ 0 ∧ A &&& (-2047 : Int32) = 0) (u : Int32) (rp rb : Int32) (r1 : Nat → Int32) (e1 e2 e3 e4 e5 e6 e7 e8 e9 e10 : Int32) (cx tr kp : Nat → Int32) (op : Int32) (m1 m2 : Nat → Int32) :
    ∃ an v v', f_X5_soonest u (nI P) (nI B) (nI C) A tx rp rb r1 e1 e2 e3 e4 e5 e6 e7 e8 e9 e10 cx tr kp = some (an, v) ∧ f_X6_soonest u (nI P) (nI B) (nI C) A op tx m1 m2 wt = some (an, v') := by
  obtain ⟨hs, hP1, hP, hB1, hB, hBP, hC1, hC, hk, h4, h5⟩ := id h
  obtain ⟨a, rfl, ha, ha0, hb0⟩ := al_of hA.1 hA.2
  rw [f_X5_soonest, f_X6_soonest, s_howMany _ _ hP, s_many _ _ hP, bd_s, bd_s]
  by_cases h63 : cnS tx 63 P = 0
  · rw [if_pos ((nI_le0 (by omega)).mpr h63), if_pos ((nI_le0 (by omega)).mpr h63)]
    have hlen : (zl (ctf tk C) P).length = cnS tx 42 P := by rw [h.zl42 hC1]; omega
    have hl4 : (zl (ctf tk C) P).length ≤ 4 := by omega
    have hz5 : (zl (ctf tk C) P).length ≤ 5 := by omega
    rw [s_read hs.p hP, bd_s, s_lay hs.p hP hC hz5, bd_s]
    dsimp only
    obtain ⟨q1, q2, q3, q4, q5, q6, q7, q8, ways, rank, cx', tr', kp', k1, k2⟩ := s_seek (sf := true) (wk := 0) (zi := 0) (z := 0) hP hB1 hB hBP ha ha0 hb0 (AR_fill (ctf tk C) r1 P) (fun q _ => cOf_le hC) hl4 (by decide) (fun q => by cases q) (fun _ => rfl) cx tr kp
    have k1' : f_X4_seek (nI a) (0 : Int32) (0 : Int32) (1 : Int32) (nI P) (nI B) (fa_fill (fun j => nI (ctf tk C j)) r1 P) cx tr kp = _ := k1
    rw [k1', bd_s]
    dsimp only
    obtain ⟨v, g1⟩ := s_soonest_29 (a := a) (c := ctf tk C) (on := opf (ctf tk C) m2 P) hP hB1 hBP hw hz5 h.cq (opf_at (o0 := m2)) ha u FU 0 (fa_fill (fun j => nI (ctf tk C j)) m1 P) sz (-6) (-6) (Nat.zero_le _) (FU_ge (by have := pow5 hz5; omega)) (fun q hq _ => AR_fill _ _ _ q hq) rfl (Or.inl ⟨rfl, rfl⟩)
    have g1' : f_X6_soonest_29 u (nI P) (nI B) (nI a) wt FU (-6 : Int32) (-6 : Int32) (0 : Int32) (nI (zl (ctf tk C) P).length) (fa_fill (fun j => nI (ctf tk C j)) m1 P) (opf (ctf tk C) m2 P) = _ := g1
    rw [g1']
    have hrk : rkf true P B = rkS P B := by unfold rkf; rw [if_pos rfl]
    rw [hrk] at k2
    have hok := SM_okS (al := a.testBit) (hold := hld 0 0 P B) (rk := rkS P B) (zl (ctf tk C) P) (ctf tk C)
    have h10 := pow5 hz5
    unfold ansS
    by_cases eu : u = -1
    · rw [if_pos eu, if_pos eu]
      obtain ⟨kw, k2'⟩ := k2
      rcases k2' with ⟨z1, z2⟩ | ⟨r, xx, z1, z2, z3, _⟩
      · rw [if_pos (by rw [kw, hok.1.mpr z1]; rfl), z1]
        exact ⟨_, _, _, rfl, rfl⟩
      · rw [if_neg (by
          rw [kw]
          exact ine (b := 0) (fun q => by rw [hok.1.mp q] at z1; cases z1) (by have := hok.2; omega) (by omega)), z1, z3]
        exact ⟨_, _, _, rfl, rfl⟩
    · rw [if_neg eu, if_neg eu, s_writtenAt hP hlen hl4 hok k2 u, bd_s]
      exact ⟨_, _, _, rfl, rfl⟩
  · rw [if_neg (fun q => h63 ((nI_le0 (by omega)).mp q)), if_neg (fun q => h63 ((nI_le0 (by omega)).mp q))]
    exact ⟨_, _, _, rfl, rfl⟩
end W4
