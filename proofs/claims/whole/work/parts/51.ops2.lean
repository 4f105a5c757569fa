theorem cnS_cong {f g : Nat → Int32} {P : Nat} (ch : Int32) (h : ∀ j, j < P → f j = g j) : cnS f ch P = cnS g ch P := by
  unfold cnS
  exact fb_ct_cong (fun j hj => by rw [h j hj])
theorem SG_fill {f g : Nat → Int32} {fk gk : Nat → Nat} (hf : SG f fk) (hg : SG g gk) (n : Nat) : SG (fa_fill f g n) (fun j => if j < n then fk j else gk j) := fun j => by
  unfold fa_fill
  by_cases e : j < n
  · rw [if_pos e]; dsimp only; rw [if_pos e]; exact hf j
  · rw [if_neg e]; dsimp only; rw [if_neg e]; exact hg j
theorem PG_fill {P B C n : Nat} {f g : Nat → Int32} {fk gk : Nat → Nat} (h : PG P B C f fk) (hg : SG g gk) (hn : P ≤ n) : PG P B C (fa_fill f g n) (fun j => if j < n then fk j else gk j) := by
  obtain ⟨hs, h1, h2, h3, h4, h5, h6, h7, hk, h8, h9⟩ := h
  refine ⟨SG_fill hs hg n, h1, h2, h3, h4, h5, h6, h7, fun i hi => ?_, ?_, ?_⟩
  · dsimp only; rw [if_pos (by omega)]; exact hk i hi
  · rw [cnS_cong (g := f) 42 (fun j hj => fa_fill_in (by omega))]; exact h8
  · rw [cnS_cong (g := f) 63 (fun j hj => fa_fill_in (by omega))]; exact h9
theorem t_page {sg P B C A S : Int32} {pd tx wt sf so : Nat → Int32} (h : PD sg pd) (ht : TI P B C A S tx wt sf so) :
    ∃ a sg' P' B' S' tx', f_X5_page sg pd P B S tx = some (a, sg', P', B', S', tx') ∧ f_X6_page sg P B S pd tx = some (a, sg', P', B', S', tx') ∧ PD sg' pd ∧ TI P' B' C A S' tx' wt sf so := by
  obtain ⟨⟨s, hs, rfl⟩, pk, hp⟩ := id h
  obtain ⟨p, b, c, st, tk, w, rfl, rfl, rfl, rfl, hpg, hw, ha, hst, hsi⟩ := id ht
  obtain ⟨a, h1, h2, h3⟩ := s_fault hs hp
  rw [f_X5_page, f_X6_page, h1, h2, bd_s, bd_s]
  rcases h3 with ⟨rfl, h4, h5, h6, h7, h8⟩ | ⟨k, hk, rfl⟩
  · rw [if_pos rfl, if_pos (by decide), f_X3_take]
    have e1 : (if (40 : Int32) < nI s then (40 : Int32) else nI s) = nI s := by rw [q_40, if_neg (inlt h5 (by omega))]
    have e2 : okC (0 : Int32) (0 : Int32) (nI s) 48 40 = true := by
      unfold okC
      rw [nI_toInt (by omega), nI_clamp (by omega)]
      have z : (0 : Int32).toInt = 0 := rfl
      have z2 : (0 : Int32).toNatClampNeg = 0 := rfl
      rw [z, z2]
      simp; omega
    rw [e1, e2, ck_t, fit_t hp, ck_t, bd_s, show ix (0 : Int32) = 0 from rfl, ix_nI (by omega), cpy_fill]
    have h9 := s_page_20 (pd := pd) h5 tx (nI s) (nI b) (nI st) FU 0 (Nat.zero_le _) (FU_ge (by omega))
    rw [fa_fill_0] at h9
    have h9' : f_X6_page_20 pd FU (0 : Int32) (nI s) (nI s) (nI b) (nI st) tx = _ := h9
    rw [h9']
    refine ⟨_, _, _, _, _, _, rfl, rfl, ⟨⟨0, by omega, rfl⟩, pk, hp⟩, s, 1, c, 0, (fun j => if j < s then pk j else tk j), w, rfl, rfl, rfl, rfl, ?_, hw, ha, by omega, fun i hi => by omega⟩
    dsimp only
    obtain ⟨hsg, g1, g2, g3, g4, g5, g6, g7, g8, g9, g10⟩ := hpg
    refine ⟨SG_fill hp hsg s, h4, h5, Nat.le_refl 1, by omega, h4, g6, g7, fun i hi => ?_, ?_, ?_⟩
    · dsimp only; rw [if_pos hi]; exact h6 i hi
    · rw [cnS_cong (g := pd) 42 (fun j hj => fa_fill_in (by omega))]; exact h7
    · rw [cnS_cong (g := pd) 63 (fun j hj => fa_fill_in (by omega))]; exact h8
  · have e1 : ¬ nI k = (-6 : Int32) := fun q => by
      have := nI_pos (n := k) (by omega)
      rw [q] at this; exact this (by decide)
    rw [if_neg e1, if_neg (nI_pos (by omega))]
    exact ⟨_, _, _, _, _, _, rfl, rfl, h, ht⟩
theorem ge1 {x : Int32} {n : Nat} (hn : n < 2 ^ 31) (h1 : (1 : Int32) ≤ x) (h2 : x ≤ nI n) : ∃ j, 1 ≤ j ∧ j ≤ n ∧ x = nI j := by
  have h3 : ¬ x < 0 := fun h4 => by
    rw [fa_lt] at h4; rw [fa_le] at h1
    have : (1 : Int32).toInt = 1 := rfl
    have : (0 : Int32).toInt = 0 := rfl
    omega
  obtain ⟨j, hj, rfl⟩ := nI_of2 (nI_toInt hn) h3 h2
  refine ⟨j, ?_, hj, rfl⟩
  rcases Nat.eq_zero_or_pos j with e | e
  · subst e; exact absurd h1 (by decide)
  · exact e
theorem t_begin {P B C A S : Int32} {tx wt sf so : Nat → Int32} (ht : TI P B C A S tx wt sf so) (x : Int32) :
    ∃ a B', f_X5_begin x P B = some (a, B') ∧ f_X6_begin x P B = some (a, B') ∧ TI P B' C A S tx wt sf so := by
  obtain ⟨p, b, c, st, tk, w, rfl, rfl, rfl, rfl, hpg, hw, ha, hst, hsi⟩ := id ht
  obtain ⟨hsg, g1, g2, g3, g4, g5, g6, g7, g8, g9, g10⟩ := id hpg
  rw [f_X5_begin, f_X6_begin, f_X6_begin_20, f_X6_begin_20, s_in, s_in, bd_s, bd_s, ite10, ite10]
  by_cases h1 : x < 1
  · have : ∀ y : Int32, ¬ ((1 : Int32) ≤ x ∧ x ≤ y) := fun y q => nle_of_lt h1 q.1
    rw [if_pos h1, if_neg (this _), if_neg (this _), ite_self]
    exact ⟨_, _, rfl, rfl, ht⟩
  · rw [if_neg h1]
    by_cases h2 : x ≤ 10
    · rw [if_neg (nlt_of_le h2)]
      obtain ⟨j, hj1, hj2, rfl⟩ := ge1 (n := 10) (by decide) (le_of_nlt h1) h2
      have hcond : ∀ (X Y : Option (Int32 × Int32)), (if (10 : Int32) ≤ nI p then if (1 : Int32) ≤ nI j ∧ nI j ≤ 10 then X else Y else if (1 : Int32) ≤ nI j ∧ nI j ≤ nI p then X else Y) = if nI j ≤ nI p then X else Y := by
        intro X Y
        by_cases hp10 : 10 ≤ p
        · rw [if_pos (show (10 : Int32) ≤ nI p from ile (a := 10) hp10 (by omega)), if_pos (And.intro (le_of_nlt h1) h2), if_pos (ile (by omega) (by omega))]
        · rw [if_neg (show ¬ (10 : Int32) ≤ nI p from inle (b := 10) (by omega) (by omega))]
          by_cases hjp : nI j ≤ nI p
          · rw [if_pos (And.intro (le_of_nlt h1) hjp), if_pos hjp]
          · rw [if_neg (fun q => hjp q.2), if_neg hjp]
      rw [hcond]
      by_cases hjp : j ≤ p
      · rw [if_pos (ile hjp (by omega))]
        exact ⟨_, _, rfl, rfl, p, j, c, st, tk, w, rfl, rfl, rfl, rfl, ⟨hsg, g1, g2, hj1, hj2, hjp, g6, g7, g8, g9, g10⟩, hw, ha, hst, hsi⟩
      · rw [if_neg (inle (by omega) (by omega))]
        exact ⟨_, _, rfl, rfl, ht⟩
    · rw [if_pos (lt_of_nle h2), if_neg (show ¬ ((1 : Int32) ≤ x ∧ x ≤ 10) from fun q => h2 q.2)]
      by_cases hp10 : 10 ≤ p
      · rw [if_pos (show (10 : Int32) ≤ nI p from ile (a := 10) hp10 (by omega))]
        exact ⟨_, _, rfl, rfl, ht⟩
      · have hn : ¬ x ≤ nI p := fun q => h2 (by
          have z := ile (a := p) (b := 10) (by omega) (by omega)
          rw [fa_le] at q z ⊢
          exact Int.le_trans q z)
        rw [if_neg (show ¬ (10 : Int32) ≤ nI p from inle (b := 10) (by omega) (by omega)), if_neg (fun q => hn q.2)]
        exact ⟨_, _, rfl, rfl, ht⟩
theorem t_court {P B C A S : Int32} {tx wt sf so : Nat → Int32} (ht : TI P B C A S tx wt sf so) (x : Int32) :
    ∃ a C', f_X5_court x C = some (a, C') ∧ f_X6_court x C = some (a, C') ∧ TI P B C' A S tx wt sf so := by
  obtain ⟨p, b, c, st, tk, w, rfl, rfl, rfl, rfl, hpg, hw, ha, hst, hsi⟩ := id ht
  obtain ⟨hsg, g1, g2, g3, g4, g5, g6, g7, g8, g9, g10⟩ := id hpg
  rw [f_X5_court, f_X6_court, s_isCount, s_in]
  simp only [bd_s, ite10]
  by_cases h : (1 : Int32) ≤ x ∧ x ≤ 10
  · rw [if_pos h]
    obtain ⟨j, hj1, hj2, rfl⟩ := ge1 (n := 10) (by decide) h.1 h.2
    exact ⟨_, _, rfl, rfl, p, b, j, st, tk, w, rfl, rfl, rfl, rfl, ⟨hsg, g1, g2, g3, g4, g5, hj1, hj2, g8, g9, g10⟩, hw, ha, hst, hsi⟩
  · rw [if_neg h]; exact ⟨_, _, rfl, rfl, ht⟩
theorem t_allow {P B C A S : Int32} {tx wt sf so : Nat → Int32} (ht : TI P B C A S tx wt sf so) (x : Int32) :
    ∃ a A', f_X5_allow x A = some (a, A') ∧ f_X6_allow x A = some (a, A') ∧ TI P B C A' S tx wt sf so := by
  obtain ⟨p, b, c, st, tk, w, rfl, rfl, rfl, rfl, hpg, hw, ha, hst, hsi⟩ := id ht
  rw [f_X5_allow, f_X6_allow]
  by_cases h0 : x = 0
  · rw [if_pos h0]; exact ⟨_, _, rfl, rfl, ht⟩
  · rw [if_neg h0]
    by_cases h1 : x &&& (-2047 : Int32) = 0
    · rw [if_pos h1]; exact ⟨_, _, rfl, rfl, p, b, c, st, tk, w, rfl, rfl, rfl, rfl, hpg, hw, ⟨h0, h1⟩, hst, hsi⟩
    · rw [if_neg h1]; exact ⟨_, _, rfl, rfl, ht⟩
theorem sm_part {w : Nat → Nat} {i : Nat} (hi : i < 10) : w (i + 1) ≤ SW w := by
  have := fb_sm_part (fun d => w (d + 1)) hi
  unfold SW
  exact Nat.le_trans (Nat.le_add_left _ _) this
theorem t_weight {P B C A S : Int32} {tx wt sf so : Nat → Int32} (ht : TI P B C A S tx wt sf so) (x y : Int32) :
    ∃ a wt', f_X5_weight x y wt = some (a, wt') ∧ f_X6_weight x y wt = some (a, wt') ∧ TI P B C A S tx wt' sf so := by
  obtain ⟨p, b, c, st, tk, w, rfl, rfl, rfl, rfl, hpg, hw, ha, hst, hsi⟩ := id ht
  rw [f_X5_weight, f_X6_weight, s_isCount, s_in, s_in, s5_weightOfAll hw.1, s6_allWeights hw.1]
  simp only [bd_s, ite10]
  by_cases hx : (1 : Int32) ≤ x ∧ x ≤ 10
  · rw [if_pos hx, if_pos hx]
    obtain ⟨j, hj1, hj2, rfl⟩ := ge1 (n := 10) (by decide) hx.1 hx.2
    rcases in_cases y (n := 9) (by decide) with ⟨a1, a2, a3, k, hk, rfl⟩ | ⟨a1, a2⟩
    · have a2' : nI k ≤ (9 : Int32) := a2
      have hwj := hw.1 j hj1 hj2
      have hle : w j ≤ SW w := by
        have := sm_part (w := w) (i := j - 1) (by omega)
        rw [Nat.sub_add_cancel hj1] at this; exact this
      have h12 := hw.2.2
      rw [if_neg a3, if_pos a2', if_pos (And.intro a1 a2'), inB_t (by omega) (by omega), ck_t, ck_t, ix_nI (by omega), hwj.1, l_sub hle, nI_add, s_in]
      simp only [bd_s, ite10]
      by_cases h1 : SW w - w j + k < 1
      · rw [if_pos (show nI (SW w - w j + k) < 1 from ilt (b := 1) h1 (by omega)), if_neg (fun q => nle_of_lt (show nI (SW w - w j + k) < 1 from ilt (b := 1) h1 (by omega)) q.1)]
        exact ⟨_, _, rfl, rfl, ht⟩
      · have c1 : ¬ nI (SW w - w j + k) < 1 := inlt (b := 1) (by omega) (by omega)
        rw [if_neg c1]
        by_cases h2 : SW w - w j + k ≤ 12
        · have c2 : nI (SW w - w j + k) ≤ 12 := ile (b := 12) h2 (by omega)
          rw [if_pos c2, if_pos (And.intro (le_of_nlt c1) c2)]
          refine ⟨_, _, rfl, rfl, p, b, c, st, tk, (fun d => if d = j then k else w d), rfl, rfl, rfl, rfl, hpg, ⟨fun d d1 d2 => ?_, ?_⟩, ha, hst, hsi⟩
          · rw [upd_at]
            by_cases e : d = j
            · rw [if_pos e]; dsimp only; rw [if_pos e]; exact ⟨rfl, by omega⟩
            · rw [if_neg e]; dsimp only; rw [if_neg e]; exact hw.1 d d1 d2
          · have hu : SW (fun d => if d = j then k else w d) + w j = SW w + k := by
              have h3 := fb_sm_upd (fun d => w (d + 1)) k (i := j - 1) (n := 10) (by omega)
              have h4 : (fun d => if d = j - 1 then k else w (d + 1)) = (fun d => if d + 1 = j then k else w (d + 1)) := by
                funext d
                by_cases e : d + 1 = j
                · rw [if_pos e, if_pos (by omega)]
                · rw [if_neg e, if_neg (by omega)]
              rw [h4] at h3
              rw [Nat.sub_add_cancel hj1] at h3
              exact h3
            omega
        · have c2 : ¬ nI (SW w - w j + k) ≤ 12 := inle (a := 12) (by omega) (by omega)
          rw [if_neg c2, if_neg (fun q => c2 q.2)]
          exact ⟨_, _, rfl, rfl, ht⟩
    · rw [if_neg (show ¬ ((0 : Int32) ≤ y ∧ y ≤ 9) from a1)]
      rcases a2 with a2 | ⟨a2, a3⟩
      · rw [if_pos a2]; exact ⟨_, _, rfl, rfl, ht⟩
      · rw [if_neg a2, if_neg (show ¬ y ≤ 9 from a3)]; exact ⟨_, _, rfl, rfl, ht⟩
  · rw [if_neg hx, if_neg hx]; exact ⟨_, _, rfl, rfl, ht⟩
theorem t_place {P B C : Nat} {tx : Nat → Int32} {tk : Nat → Nat} (h : PG P B C tx tk) (x y : Int32) : ∃ a, f_X5_place x y (nI P) (nI C) tx = some a ∧ f_X6_place x y (nI P) (nI C) tx = some a := by
  obtain ⟨hs, hP1, hP, hB1, hB, hBP, hC1, hC, hk, h4, h5⟩ := id h
  rw [f_X5_place, f_X6_place, s_has (by omega), s_isPlace hP1 (by omega)]
  simp only [bd_s, ite10]
  by_cases hx : ∃ j, j < P ∧ x = nI j
  · rw [if_pos hx, if_pos hx]
    obtain ⟨i, hi, rfl⟩ := hx
    rw [inB_t (by omega) (by omega), ck_t, ck_t, ix_nI (by omega), (hs i).1, s5_countOf (hs i).2, s6_countOf (hs i).2]
    simp only [bd_s]
    rcases in_cases y (n := 1) (by decide) with ⟨a1, a2, a3, k, hk1, rfl⟩ | ⟨a1, a2⟩
    · rw [if_neg a3, if_pos (show nI k ≤ (1 : Int32) from a2)]
      by_cases e : k = 0
      · subst e; rw [if_pos (show nI 0 = 0 from rfl)]; exact ⟨_, rfl, rfl⟩
      · have : k = 1 := by omega
        subst this
        rw [if_neg (show ¬ nI 1 = 0 by decide), if_neg (show ¬ nI 1 = 0 by decide), if_pos (show nI 1 = (1 : Int32) from rfl)]
        by_cases e2 : nI (cOf (tk i) C) = 0
        · rw [if_pos e2]; exact ⟨_, rfl, rfl⟩
        · rw [if_neg e2]; exact ⟨_, rfl, rfl⟩
    · have e0 : ¬ y = 0 := fun q => a1 (by rw [q]; decide)
      have e1 : ¬ y = 1 := fun q => a1 (by rw [q]; decide)
      simp only [if_neg e0, if_neg e1]
      rcases a2 with a2 | ⟨a2, a3⟩
      · rw [if_pos a2]; exact ⟨_, rfl, rfl⟩
      · rw [if_neg a2, if_neg (show ¬ y ≤ 1 from a3)]; exact ⟨_, rfl, rfl⟩
  · rw [if_neg hx, if_neg hx]; exact ⟨_, rfl, rfl⟩
def SI (sight sf so : Nat → Int32) : Prop := ∀ i, i < 6 → sight (2 * i) = sf i ∧ sight (2 * i + 1) = so i
theorem t_seen {P B C A S : Int32} {tx wt sf so sight : Nat → Int32} (ht : TI P B C A S tx wt sf so) (hsi : SI sight sf so) (x y : Int32) :
    ∃ a S' sf' so' sight', f_X5_seen x y P S sf so = some (a, S', sf', so') ∧ f_X6_seen x y P S sight = some (a, S', sight') ∧ TI P B C A S' tx wt sf' so' ∧ SI sight' sf' so' := by
  obtain ⟨p, b, c, st, tk, w, rfl, rfl, rfl, rfl, hpg, hw, ha, hst, hsb⟩ := id ht
  obtain ⟨hs, hP1, hP, hB1, hB, hBP, hC1, hC, hk, h4, h5⟩ := id hpg
  rw [f_X5_seen, f_X6_seen, s_has (by omega), s_has (by omega), s_isPlace hP1 (by omega), s_isPlace hP1 (by omega)]
  simp only [bd_s, ite10]
  by_cases hx : ∃ j, j < p ∧ x = nI j
  · rw [if_pos hx, if_pos hx]
    by_cases hy : ∃ j, j < p ∧ y = nI j
    · rw [if_pos hy, if_pos hy]
      by_cases e : st = 6
      · subst e
        rw [if_neg (show ¬ nI 6 < (6 : Int32) by decide), if_pos (show nI 6 = (6 : Int32) from rfl)]
        exact ⟨_, _, _, _, _, rfl, rfl, ht, hsi⟩
      · obtain ⟨f, hf, rfl⟩ := hx
        obtain ⟨o, ho, rfl⟩ := hy
        have e2 : (2 : Int32) * nI st = nI (2 * st) := pk_mul 2 st
        rw [if_pos (show nI st < (6 : Int32) from ilt (b := 6) (by omega) (by omega)), if_neg (show ¬ nI st = (6 : Int32) from ine (b := 6) e (by omega) (by omega)), e2]
        simp only [nI_p1]
        rw [inB_t (show st < 6 by omega) (by omega), ck_t, inB_t (show 2 * st < 12 by omega) (by omega), ck_t, inB_t (show 2 * st + 1 < 12 by omega) (by omega), ck_t, ix_nI (show st < 2 ^ 31 by omega), ix_nI (show 2 * st < 2 ^ 31 by omega), ix_nI (show 2 * st + 1 < 2 ^ 31 by omega)]
        refine ⟨_, _, _, _, _, rfl, rfl, ⟨p, b, c, st + 1, tk, w, rfl, rfl, rfl, rfl, hpg, hw, ha, by omega, fun i hi => ?_⟩, fun i hi => ?_⟩
        · rw [upd_at, upd_at]
          by_cases ei : i = st
          · rw [if_pos ei, if_pos ei]; exact ⟨f, o, hf, ho, rfl, rfl⟩
          · rw [if_neg ei, if_neg ei]; exact hsb i (by omega)
        · rw [upd_at, upd_at, upd_at, upd_at, upd_at, upd_at]
          by_cases ei : i = st
          · rw [if_pos ei, if_pos ei, if_neg (by omega), if_pos (by omega), if_pos (by omega)]; exact ⟨rfl, rfl⟩
          · rw [if_neg ei, if_neg ei, if_neg (by omega), if_neg (by omega), if_neg (by omega), if_neg (by omega)]; exact hsi i hi
    · rw [if_neg hy, if_neg hy]; exact ⟨_, _, _, _, _, rfl, rfl, ht, hsi⟩
  · rw [if_neg hx, if_neg hx]; exact ⟨_, _, _, _, _, rfl, rfl, ht, hsi⟩
theorem TI_forget {P B C A S : Int32} {tx wt sf so : Nat → Int32} (ht : TI P B C A S tx wt sf so) : TI P B C A 0 tx wt sf so := by
  obtain ⟨p, b, c, st, tk, w, rfl, rfl, rfl, rfl, hpg, hw, ha, hst, hsb⟩ := ht
  exact ⟨p, b, c, 0, tk, w, rfl, rfl, rfl, rfl, hpg, hw, ha, by omega, fun i hi => by omega⟩
theorem t_told {P : Nat} (hP : P ≤ 40) (x sg B C A S : Int32) (wt tx : Nat → Int32) : ∃ a, f_X5_told x sg (nI P) B C A S wt tx = some a ∧ f_X6_told x sg (nI P) B C A S tx wt = some a := by
  rw [f_X5_told, f_X6_told, f_X5_told_25, s_in, s_howMany _ _ hP, s_howMany _ _ hP, s_many _ _ hP, s_many _ _ hP]
  simp only [bd_s, ite10]
  by_cases hx : (11 : Int32) ≤ x ∧ x ≤ 20
  · have hn : ∀ a : Int32, a < 11 → ¬ x = a := fun a ha q => nle_of_lt ha (by rw [← q]; exact hx.1)
    rw [if_neg (show ¬ x ≤ 10 from fun q => by
      have h1 := hx.1
      rw [fa_le] at q h1
      have : (11 : Int32).toInt = 11 := rfl
      have : (10 : Int32).toInt = 10 := rfl
      omega), if_neg (nlt_of_le hx.2), if_neg (hn 0 (by decide)), if_neg (hn 1 (by decide)), if_neg (hn 2 (by decide)), if_neg (hn 3 (by decide)), if_neg (hn 4 (by decide)), if_neg (hn 5 (by decide)), if_neg (hn 6 (by decide)), if_neg (hn 7 (by decide)), if_pos hx]
    obtain ⟨j, hj, rfl⟩ : ∃ j, j ≤ 20 ∧ x = nI j := nI_of2 (n := 20) (nI_toInt (by omega)) (fun q => by
      have h1 := hx.1
      rw [fa_lt] at q; rw [fa_le] at h1
      have : (11 : Int32).toInt = 11 := rfl
      have : (0 : Int32).toInt = 0 := rfl
      omega) hx.2
    have h11 : 11 ≤ j := Classical.byContradiction (fun z => inle (b := 11) (show j < 11 by omega) (by omega) hx.1)
    have e : nI j - (10 : Int32) = nI (j - 10) := l_sub (j := 10) (by omega)
    rw [e, inB_t (by omega) (by omega), ck_t]
    exact ⟨_, rfl, rfl⟩
  · rw [if_neg hx]
    by_cases h10 : x ≤ 10
    · rw [if_pos h10]
      repeat' split
      all_goals exact ⟨_, rfl, rfl⟩
    · have h20 : (20 : Int32) < x := lt_of_nle (fun q => hx ⟨by
        have h1 := lt_of_nle h10
        rw [fa_lt] at h1; rw [fa_le]
        have : (11 : Int32).toInt = 11 := rfl
        have : (10 : Int32).toInt = 10 := rfl
        omega, q⟩)
      rw [if_neg h10, if_pos h20]
      repeat' split
      all_goals exact ⟨_, rfl, rfl⟩
