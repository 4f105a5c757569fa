/-! ===== tools: ints as numbers ===== -/
theorem ix_nI {n : Nat} (h : n < 2 ^ 31) : ix (nI n) = n := nI_clamp h
theorem inB_t {i n : Nat} (h : i < n) (hn : n < 2 ^ 31) : inB (nI i) n = true := by
  have h1 : i < 2 ^ 31 := Nat.lt_trans h hn
  unfold inB
  rw [nI_toInt h1, Bool.and_eq_true, decide_eq_true_eq, decide_eq_true_eq]
  omega
theorem inB_of {x : Int32} {n : Nat} (hn : n < 2 ^ 31) (h : inB x n = true) : ∃ j, j < n ∧ x = nI j := vp_in_of (inB_vp h) hn
theorem inle {a b : Nat} (h : a < b) (hb : b < 2 ^ 31) : ¬ nI b ≤ nI a := nI_ge h hb
theorem ile {a b : Nat} (h : a ≤ b) (hb : b < 2 ^ 31) : nI a ≤ nI b := nI_le h hb
theorem ilt {a b : Nat} (h : a < b) (hb : b < 2 ^ 31) : nI a < nI b := nI_lt h hb
theorem inlt {a b : Nat} (h : b ≤ a) (hb : a < 2 ^ 31) : ¬ nI a < nI b := nI_nlt h hb
theorem ine {a b : Nat} (h : a ≠ b) (ha : a < 2 ^ 31) (hb : b < 2 ^ 31) : ¬ nI a = nI b := fun e => h ((nI_eq ha hb).mp e)
theorem ieq_iff {a b : Nat} (ha : a < 2 ^ 31) (hb : b < 2 ^ 31) : nI a = nI b ↔ a = b := nI_eq ha hb
theorem bd_s {α β : Type} (a : α) (g : α → Option β) : Option.bind (some a) g = g a := rfl
theorem nI_p1 (a : Nat) : nI a + (1 : Int32) = nI (a + 1) := nI_1 a
theorem nI_m1 {a : Nat} (h : 1 ≤ a) : nI a - (1 : Int32) = nI (a - 1) := by
  obtain ⟨k, rfl⟩ : ∃ k, a = k + 1 := ⟨a - 1, by omega⟩
  rw [Nat.add_sub_cancel]; exact nI_pred k
theorem FU_ge {n : Nat} (h : n < 200000) : n < FU := h
theorem nar_char {n : Nat} (h : n < 65536) : vp_nar .char (nI n) = nI n := by
  rw [vp_nar_char]
  exact fb_char h
theorem ji2c_nI {n : Nat} (h : n < 65536) : ji2c (nI n) = nI n := by
  unfold ji2c
  rw [pk_char, pk_tn (by omega), Nat.mod_eq_of_lt h]
theorem upd_at (f : Nat → Int32) (k : Nat) (x : Int32) (j : Nat) : upd f k x j = if j = k then x else f j := rfl
/-- from a place to itself in three cases -/
theorem i32_cases (x : Int32) {n : Nat} (hn : n < 2 ^ 31) : x < 0 ∨ nI n ≤ x ∨ ∃ j : Nat, j < n ∧ x = nI j := pk_ix x hn
theorem nlt_of_le {a b : Int32} (h : a ≤ b) : ¬ b < a := fun h2 => by
  rw [fa_le] at h; rw [fa_lt] at h2; omega
theorem nle_of_lt {a b : Int32} (h : a < b) : ¬ b ≤ a := fun h2 => by
  rw [fa_lt] at h; rw [fa_le] at h2; omega
theorem lt_of_nle {a b : Int32} (h : ¬ a ≤ b) : b < a := by
  rw [fa_le] at h; rw [fa_lt]; omega
theorem le_of_nlt {a b : Int32} (h : ¬ a < b) : b ≤ a := by
  rw [fa_lt] at h; rw [fa_le]; omega
/-! ===== small leaves ===== -/
theorem s_in (v a b : Int32) : f_X6_in v a b = some (if a ≤ v ∧ v ≤ b then 1 else 0) := by
  rw [f_X6_in]
  by_cases h1 : v < a
  · rw [if_pos h1, if_neg (fun h => nle_of_lt h1 h.1)]
  · rw [if_neg h1]
    by_cases h2 : v ≤ b
    · first
        | rw [if_pos h2, if_pos ⟨le_of_nlt h1, h2⟩]
        | rw [if_neg (nlt_of_le h2), if_pos ⟨le_of_nlt h1, h2⟩]
    · first
        | rw [if_neg h2, if_neg (fun h => h2 h.2)]
        | rw [if_pos (lt_of_nle h2), if_neg (fun h => h2 h.2)]
theorem s_isCount (v : Int32) : f_X5_isCount v = some (if (1 : Int32) ≤ v ∧ v ≤ (10 : Int32) then 1 else 0) := by
  rw [f_X5_isCount]
  by_cases h1 : v < 1
  · rw [if_pos h1, if_neg (fun h => nle_of_lt h1 h.1)]
  · rw [if_neg h1]
    by_cases h2 : v ≤ 10
    · first
        | rw [if_pos h2, if_pos ⟨le_of_nlt h1, h2⟩]
        | rw [if_neg (nlt_of_le h2), if_pos ⟨le_of_nlt h1, h2⟩]
    · first
        | rw [if_neg h2, if_neg (fun h => h2 h.2)]
        | rw [if_pos (lt_of_nle h2), if_neg (fun h => h2 h.2)]
theorem ite10 {α : Type} {c : Prop} [Decidable c] (x y : α) : (if (if c then (1 : Int32) else 0) = 0 then x else y) = if c then y else x := by
  by_cases h : c
  · rw [if_pos h, if_pos h]; exact if_neg (by decide)
  · rw [if_neg h, if_neg h]; exact if_pos rfl
/-- the number of places with a sign, counted by the class and by the reference -/
def cnS (tx : Nat → Int32) (ch : Int32) (P : Nat) : Nat := fb_ct (fun j => decide (tx j = ch)) P
theorem s_howMany_4 (ch : Int32) (tx : Nat → Int32) {P : Nat} (hP : P ≤ 40) : ∀ (n i : Nat), i ≤ P → P - i < n → f_X3_howMany_4 ch (nI P) tx n (nI (cnS tx ch i)) (nI i) = some (nI (cnS tx ch P)) := by
  intro n
  induction n with
  | zero => intro i h1 h2; omega
  | succ n ih =>
    intro i h1 h2
    rw [f_X3_howMany_4]
    by_cases h : i = P
    · subst h; rw [if_pos (ile (Nat.le_refl _) (by omega))]
    · rw [if_neg (inle (by omega) (by omega)), inB_t (by omega) (by omega), ck_t, ix_nI (by omega)]
      simp only [nI_p1]
      have ih' := ih (i + 1) (by omega) (by omega)
      by_cases hc : tx i = ch
      · rw [if_pos hc]
        rw [show cnS tx ch i + 1 = cnS tx ch (i + 1) from (by unfold cnS; rw [fb_ct_succ]; simp [hc])]
        exact ih'
      · rw [if_neg hc]
        rw [show cnS tx ch i = cnS tx ch (i + 1) from (by unfold cnS; rw [fb_ct_succ]; simp [hc])]
        exact ih'
theorem s_howMany (ch : Int32) (tx : Nat → Int32) {P : Nat} (hP : P ≤ 40) : f_X3_howMany ch (nI P) tx = some (nI (cnS tx ch P)) :=
  s_howMany_4 ch tx hP FU 0 (Nat.zero_le _) (FU_ge (by omega))
theorem s_many_4 (ch : Int32) (tx : Nat → Int32) {P : Nat} (hP : P ≤ 40) : ∀ (n i : Nat), i ≤ P → P - i < n → f_X6_many_4 ch (nI P) tx n (nI (cnS tx ch i)) (nI i) = some (nI (cnS tx ch P)) := by
  intro n
  induction n with
  | zero => intro i h1 h2; omega
  | succ n ih =>
    intro i h1 h2
    rw [f_X6_many_4]
    by_cases h : i = P
    · subst h; rw [if_pos (ile (Nat.le_refl _) (by omega))]
    · rw [if_neg (inle (by omega) (by omega)), inB_t (by omega) (by omega), ck_t, ix_nI (by omega)]
      simp only [nI_p1]
      have ih' := ih (i + 1) (by omega) (by omega)
      by_cases hc : tx i = ch
      · rw [if_pos hc]
        rw [show cnS tx ch i + 1 = cnS tx ch (i + 1) from (by unfold cnS; rw [fb_ct_succ]; simp [hc])]
        exact ih'
      · rw [if_neg hc]
        rw [show nI (cnS tx ch i) + (0 : Int32) = nI (cnS tx ch (i + 1)) from (by unfold cnS; rw [fb_ct_succ]; simp [hc])]
        exact ih'
theorem s_many (ch : Int32) (tx : Nat → Int32) {P : Nat} (hP : P ≤ 40) : f_X6_many ch (nI P) tx = some (nI (cnS tx ch P)) :=
  s_many_4 ch tx hP FU 0 (Nat.zero_le _) (FU_ge (by omega))
/-! ===== literals ===== -/
theorem q_0 : (0 : Int32) = nI 0 := rfl
theorem q_1 : (1 : Int32) = nI 1 := rfl
theorem q_2 : (2 : Int32) = nI 2 := rfl
theorem q_3 : (3 : Int32) = nI 3 := rfl
theorem q_4 : (4 : Int32) = nI 4 := rfl
theorem q_5 : (5 : Int32) = nI 5 := rfl
theorem q_6 : (6 : Int32) = nI 6 := rfl
theorem q_7 : (7 : Int32) = nI 7 := rfl
theorem q_9 : (9 : Int32) = nI 9 := rfl
theorem q_10 : (10 : Int32) = nI 10 := rfl
theorem q_11 : (11 : Int32) = nI 11 := rfl
theorem q_12 : (12 : Int32) = nI 12 := rfl
theorem q_31 : (31 : Int32) = nI 31 := rfl
theorem q_33 : (33 : Int32) = nI 33 := rfl
theorem q_39 : (39 : Int32) = nI 39 := rfl
theorem q_40 : (40 : Int32) = nI 40 := rfl
theorem q_42 : (42 : Int32) = nI 42 := rfl
theorem q_48 : (48 : Int32) = nI 48 := rfl
theorem q_49 : (49 : Int32) = nI 49 := rfl
theorem q_57 : (57 : Int32) = nI 57 := rfl
theorem q_63 : (63 : Int32) = nI 63 := rfl
theorem q_65 : (65 : Int32) = nI 65 := rfl
theorem q_68 : (68 : Int32) = nI 68 := rfl
theorem q_74 : (74 : Int32) = nI 74 := rfl
theorem q_75 : (75 : Int32) = nI 75 := rfl
theorem q_81 : (81 : Int32) = nI 81 := rfl
theorem q_84 : (84 : Int32) = nI 84 := rfl
theorem q_99 : (99 : Int32) = nI 99 := rfl
theorem q_100 : (100 : Int32) = nI 100 := rfl
theorem q_126 : (126 : Int32) = nI 126 := rfl
theorem q_136 : (136 : Int32) = nI 136 := rfl
theorem q_511 : (511 : Int32) = nI 511 := rfl
theorem q_512 : (512 : Int32) = nI 512 := rfl
theorem q_1022 : (1022 : Int32) = nI 1022 := rfl
theorem q_1023 : (1023 : Int32) = nI 1023 := rfl
theorem q_1024 : (1024 : Int32) = nI 1024 := rfl
theorem q_2046 : (2046 : Int32) = nI 2046 := rfl
theorem q_9999 : (9999 : Int32) = nI 9999 := rfl
theorem q_65537 : (65537 : Int32) = nI 65537 := rfl
theorem l_sub {k j : Nat} (h : j ≤ k) : nI k - nI j = nI (k - j) := pk_sub h
def cOf (k C : Nat) : Nat := if 49 ≤ k ∧ k ≤ 57 then k - 48 else if k = 84 then 10 else if k = 65 then 1 else if k = 74 ∨ k = 81 ∨ k = 75 then C else 0
theorem s5_countOf {k C : Nat} (hk : k < 65536) : f_X5_countOf (nI k) (nI C) = some (nI (cOf k C)) := by
  rw [f_X5_countOf, f_X5_countOf_17]
  simp (disch := omega) only [q_49, q_57, q_65, q_84, q_74, q_81, q_75, q_48, nI_ltI, nI_eq]
  unfold cOf
  by_cases h1 : k < 49
  · rw [if_pos h1, if_neg (show ¬ (49 ≤ k ∧ k ≤ 57) by omega)]
    repeat' split
    all_goals first | rfl | (exfalso; omega)
  · rw [if_neg h1]
    by_cases h2 : 57 < k
    · rw [if_pos h2, if_neg (show ¬ (49 ≤ k ∧ k ≤ 57) by omega)]
      repeat' split
      all_goals first | rfl | (exfalso; omega)
    · rw [if_neg h2, if_pos (show 49 ≤ k ∧ k ≤ 57 by omega), l_sub (by omega)]
theorem s6_countOf {k C : Nat} (hk : k < 65536) : f_X6_countOf (nI k) (nI C) = some (nI (cOf k C)) := by
  rw [f_X6_countOf, s_in, bd_s, ite10, f_X6_isCourt]
  simp (disch := omega) only [q_49, q_57, q_65, q_84, q_74, q_81, q_75, q_48, nI_leI, nI_eq]
  unfold cOf
  by_cases h1 : 49 ≤ k ∧ k ≤ 57
  · rw [if_pos h1, if_pos h1, l_sub (by omega)]
  · rw [if_neg h1, if_neg h1]
    by_cases h2 : k = 84
    · rw [if_pos h2, if_pos h2]; rfl
    · rw [if_neg h2, if_neg h2]
      by_cases h3 : k = 65
      · rw [if_pos h3, if_pos h3]; rfl
      · rw [if_neg h3, if_neg h3]
        by_cases h4 : k = 74
        · rw [if_pos h4, if_pos (Or.inl h4)]; rfl
        · rw [if_neg h4]
          by_cases h5 : k = 81
          · rw [if_pos h5, if_pos (Or.inr (Or.inl h5))]; rfl
          · rw [if_neg h5]
            by_cases h6 : k = 75
            · rw [if_pos h6, if_pos (Or.inr (Or.inr h6))]; rfl
            · rw [if_neg h6, if_neg (by omega)]; rfl
theorem s_has {P : Nat} (hP : P < 2 ^ 31) (x : Int32) : f_X3_has x (nI P) = some (if ∃ j, j < P ∧ x = nI j then 1 else 0) := by
  rw [f_X3_has]
  rcases i32_cases x hP with h | h | ⟨j, hj, rfl⟩
  · rw [if_pos h, if_neg]
    rintro ⟨j, hj, rfl⟩
    exact nI_pos (by omega) h
  · rw [if_neg (fun h2 => ?_), if_pos h, if_neg]
    · rintro ⟨j, hj, rfl⟩
      exact inle hj hP h
    · have := nle_of_lt h2
      rw [fa_le] at h this
      rw [nI_toInt hP] at h
      have h0 : (0 : Int32).toInt = 0 := rfl
      omega
  · rw [if_neg (nI_pos (by omega)), if_neg (inle hj hP), if_pos ⟨j, hj, rfl⟩]
theorem s_isPlace {P : Nat} (h1 : 1 ≤ P) (hP : P < 2 ^ 31) (x : Int32) : f_X6_isPlace x (nI P) = some (if ∃ j, j < P ∧ x = nI j then 1 else 0) := by
  rw [f_X6_isPlace, s_in, bd_s, nI_m1 h1]
  have e : ((0 : Int32) ≤ x ∧ x ≤ nI (P - 1)) ↔ ∃ j, j < P ∧ x = nI j := by
    constructor
    · rintro ⟨a, b⟩
      obtain ⟨j, hj, e⟩ := nI_of2 (n := P - 1) (nI_toInt (by omega)) (nlt_of_le a) b
      exact ⟨j, by omega, e⟩
    · rintro ⟨j, hj, rfl⟩
      exact ⟨nI_pos' (by omega), ile (by omega) (by omega)⟩
  by_cases h : ∃ j, j < P ∧ x = nI j
  · rw [if_pos (e.mpr h), if_pos h]; rfl
  · rw [if_neg (fun q => h (e.mp q)), if_neg h]; rfl
def wholeP (tx : Nat → Int32) (P : Nat) : Prop := cnS tx 42 P = 0 ∧ cnS tx 63 P = 0
