/-! ===== longs as sets of places ===== -/
theorem lg0 {x : Nat} (h : x < 2) : (lg_cmp (lN x) (0 : Int64) = 0) ↔ x = 0 := by
  rcases (show x = 0 ∨ x = 1 by omega) with rfl | rfl
  · exact ⟨fun _ => rfl, fun _ => rfl⟩
  · exact ⟨fun h => absurd h (by decide), fun h => absurd h (by decide)⟩
theorem tb_test {m k : Nat} (hm : m < 2 ^ 64) (hk : k < 64) : (lg_cmp ((jlushr (lN m) (nI k)) &&& (1 : Int64)) (0 : Int64) = 0) ↔ m.testBit k = false := by
  unfold jlushr
  rw [wb_bit hm hk, lg0 (Nat.mod_lt _ (by decide)), Nat.testBit_eq_decide_div_mod_eq, decide_eq_false_iff_not]
  omega
theorem lg_eq {x y : Int64} : (lg_cmp x y = 0) ↔ x = y := by
  unfold lg_cmp
  by_cases h : x > y
  · rw [if_pos h]
    constructor
    · intro e; exact absurd e (by decide)
    · intro e; subst e; exact absurd h (Int64.lt_irrefl)
  · rw [if_neg h]
    by_cases e : x = y
    · rw [if_pos e]; exact ⟨fun _ => e, fun _ => rfl⟩
    · rw [if_neg e]; exact ⟨fun q => absurd q (by decide), fun q => absurd q e⟩
theorem shl_1 {k : Nat} (hk : k < 64) : jlshl (1 : Int64) (nI k) = lN (2 ^ k) := by
  unfold jlshl
  have := wb_shl 1 hk
  rw [Nat.one_mul] at this
  exact this
theorem or_lt {m k : Nat} (hm : m < 2 ^ 64) (hk : k < 64) : m ||| 2 ^ k < 2 ^ 64 := Nat.or_lt_two_pow hm (Nat.pow_lt_pow_right (by decide) hk)
theorem tb_pow (k q : Nat) : (2 ^ k).testBit q = decide (q = k) := by
  rw [Nat.testBit_two_pow]
  by_cases h : k = q
  · subst h; simp
  · rw [decide_eq_false h, decide_eq_false (fun e => h e.symm)]
theorem s_streamOf_7 {c : Nat → Nat} {P : Nat} {ct : Nat → Int32} (hc : okc c P) (hP : P ≤ 40) (hr : AR ct c P) : ∀ (n p m : Nat), p ≤ P → P - p < n → m < 2 ^ 64 → (∀ x, m.testBit x = true → x < P) →
    ∃ m', f_X2_streamOf_7 (nI P) ct n (lN m) (nI p) = some (lN m') ∧ m' < 2 ^ 64 ∧ ∀ q, m'.testBit q = true ↔ (m.testBit q = true ∧ q < p) ∨ ∃ x, p ≤ x ∧ m.testBit x = true ∧ rs c P x q = true := by
  intro n
  induction n with
  | zero => intro p m h1 h2; omega
  | succ n ih =>
    intro p m h1 h2 hm hx
    rw [f_X2_streamOf_7]
    by_cases e : p = P
    · subst e
      refine ⟨m, by rw [if_pos (ile (Nat.le_refl _) (by omega))], hm, fun q => ?_⟩
      constructor
      · intro h; exact Or.inl ⟨h, hx q h⟩
      · rintro (h | ⟨x, a, b, _⟩)
        · exact h.1
        · have := hx x b; omega
    · have hp : p < P := by omega
      have h3 := hc p hp
      rw [if_neg (inle hp (by omega)), inB_t (by omega) (by omega), ck_t, ix_nI (by omega), hr p hp, nI_add, nI_p1]
      by_cases hb : m.testBit p = true
      · rw [if_neg (fun q => by rw [(tb_test hm (by omega)).mp q] at hb; cases hb)]
        by_cases h4 : p + c p < P
        · rw [if_neg (inle h4 (by omega)), shl_1 (by omega), fb_orL]
          have hx' : ∀ x, (m ||| 2 ^ (p + c p)).testBit x = true → x < P := fun x hx2 => by
            rw [fb_bit_set, Bool.or_eq_true, decide_eq_true_eq] at hx2
            rcases hx2 with h | h
            · exact hx x h
            · omega
          obtain ⟨m', a, b, d⟩ := ih (p + 1) _ (by omega) (by omega) (or_lt hm (by omega)) hx'
          refine ⟨m', a, b, fun q => ?_⟩
          rw [d q]
          constructor
          · rintro (⟨h5, h6⟩ | ⟨x, h5, h6, h7⟩)
            · rw [fb_bit_set, Bool.or_eq_true, decide_eq_true_eq] at h5
              rcases h5 with h5 | h5
              · by_cases e2 : q = p
                · subst e2; exact Or.inr ⟨q, Nat.le_refl _, hb, rs_self hc hp⟩
                · exact Or.inl ⟨h5, by omega⟩
              · omega
            · rw [fb_bit_set, Bool.or_eq_true, decide_eq_true_eq] at h6
              rcases h6 with h6 | h6
              · exact Or.inr ⟨x, by omega, h6, h7⟩
              · subst h6
                have := (rs_ge hc _ h4 q h7).1
                exact Or.inr ⟨p, Nat.le_refl _, hb, by rw [rs_eq hc hp, if_neg (by omega), if_pos h4]; exact h7⟩
          · rintro (⟨h5, h6⟩ | ⟨x, h5, h6, h7⟩)
            · exact Or.inl ⟨by rw [fb_bit_set, h5, Bool.true_or], by omega⟩
            · by_cases e2 : x = p
              · subst e2
                rw [rs_eq hc hp] at h7
                by_cases e3 : x = q
                · subst e3; exact Or.inl ⟨by rw [fb_bit_set, hb, Bool.true_or], by omega⟩
                · rw [if_neg e3, if_pos h4] at h7
                  exact Or.inr ⟨x + c x, by omega, by rw [fb_bit_set, decide_eq_true rfl, Bool.or_true], h7⟩
              · exact Or.inr ⟨x, by omega, by rw [fb_bit_set, h6, Bool.true_or], h7⟩
        · rw [if_pos (ile (by omega) (by omega))]
          obtain ⟨m', a, b, d⟩ := ih (p + 1) m (by omega) (by omega) hm hx
          refine ⟨m', a, b, fun q => ?_⟩
          rw [d q]
          constructor
          · rintro (⟨h5, h6⟩ | ⟨x, h5, h6, h7⟩)
            · by_cases e2 : q = p
              · subst e2; exact Or.inr ⟨q, Nat.le_refl _, hb, rs_self hc hp⟩
              · exact Or.inl ⟨h5, by omega⟩
            · exact Or.inr ⟨x, by omega, h6, h7⟩
          · rintro (⟨h5, h6⟩ | ⟨x, h5, h6, h7⟩)
            · exact Or.inl ⟨h5, by omega⟩
            · by_cases e2 : x = p
              · subst e2
                rw [rs_eq hc hp] at h7
                by_cases e3 : x = q
                · subst e3; exact Or.inl ⟨hb, by omega⟩
                · rw [if_neg e3, if_neg h4] at h7; cases h7
              · exact Or.inr ⟨x, by omega, h6, h7⟩
      · have hb' : m.testBit p = false := by cases h : m.testBit p with
          | true => exact absurd h hb
          | false => rfl
        rw [if_pos ((tb_test hm (by omega)).mpr hb')]
        obtain ⟨m', a, b, d⟩ := ih (p + 1) m (by omega) (by omega) hm hx
        refine ⟨m', a, b, fun q => ?_⟩
        rw [d q]
        constructor
        · rintro (⟨h5, h6⟩ | ⟨x, h5, h6, h7⟩)
          · by_cases e2 : q = p
            · subst e2; exact absurd h5 hb
            · exact Or.inl ⟨h5, by omega⟩
          · exact Or.inr ⟨x, by omega, h6, h7⟩
        · rintro (⟨h5, h6⟩ | ⟨x, h5, h6, h7⟩)
          · exact Or.inl ⟨h5, by omega⟩
          · by_cases e2 : x = p
            · subst e2; exact absurd h6 hb
            · exact Or.inr ⟨x, by omega, h6, h7⟩
theorem s_streamOf {c : Nat → Nat} {P : Nat} {ct : Nat → Int32} (hc : okc c P) (hP : P ≤ 40) (hr : AR ct c P) {a : Nat} (ha : a < P) :
    ∃ m, f_X2_streamOf (nI a) (nI P) ct = some (lN m) ∧ m < 2 ^ 64 ∧ ∀ q, m.testBit q = rs c P a q := by
  obtain ⟨m, h1, h2, h3⟩ := s_streamOf_7 hc hP hr FU a (2 ^ a) (by omega) (FU_ge (by omega)) (Nat.pow_lt_pow_right (by decide) (by omega)) (fun x h => by
    rw [tb_pow, decide_eq_true_eq] at h; omega)
  refine ⟨m, ?_, h2, fun q => ?_⟩
  · rw [f_X2_streamOf, shl_1 (by omega)]; exact h1
  · have e : m.testBit q = true ↔ rs c P a q = true := by
      rw [h3 q]
      constructor
      · rintro (⟨h, h4⟩ | ⟨x, h4, h5, h6⟩)
        · rw [tb_pow, decide_eq_true_eq] at h; omega
        · rw [tb_pow, decide_eq_true_eq] at h5; subst h5; exact h6
      · intro h
        exact Or.inr ⟨a, Nat.le_refl _, by rw [tb_pow, decide_eq_true rfl], h⟩
    cases h : rs c P a q with
    | true => exact e.mpr h
    | false => cases h5 : m.testBit q with
      | true => rw [e.mp h5] at h; cases h
      | false => rfl
theorem lN_m1 : (-1 : Int64) = lN (2 ^ 64 - 1) := by decide
/-- PASS: the places of the streams of all beginnings -/
def psd (c : Nat → Nat) (P B q : Nat) : Bool := (List.range B).all (fun b => rs c P b q)
theorem psd_iff {c : Nat → Nat} {P B q : Nat} : psd c P B q = true ↔ ∀ b, b < B → rs c P b q = true := by
  unfold psd
  rw [List.all_eq_true]
  exact ⟨fun h b hb => h b (List.mem_range.mpr hb), fun h b hb => h b (List.mem_range.mp hb)⟩
theorem s_passed_6 {c : Nat → Nat} {P B : Nat} {ct : Nat → Int32} (hc : okc c P) (hP : P ≤ 40) (hr : AR ct c P) (hB : B ≤ P) : ∀ (n i m : Nat), i ≤ B → B - i < n → m < 2 ^ 64 →
    ∃ m', f_X2_passedByAll_6 (nI P) (nI B) ct n (lN m) (nI i) = some (lN m') ∧ m' < 2 ^ 64 ∧ ∀ q, m'.testBit q = true ↔ m.testBit q = true ∧ ∀ b, i ≤ b → b < B → rs c P b q = true := by
  intro n
  induction n with
  | zero => intro i m h1 h2; omega
  | succ n ih =>
    intro i m h1 h2 hm
    rw [f_X2_passedByAll_6]
    by_cases e : i = B
    · subst e
      refine ⟨m, by rw [if_pos (ile (Nat.le_refl _) (by omega))], hm, fun q => ⟨fun h => ⟨h, fun b h3 h4 => by omega⟩, fun h => h.1⟩⟩
    · obtain ⟨s, h3, h4, h5⟩ := s_streamOf hc hP hr (show i < P by omega)
      rw [if_neg (inle (by omega) (by omega)), h3, bd_s, fb_andL, nI_p1]
      obtain ⟨m', a, b, d⟩ := ih (i + 1) (m &&& s) (by omega) (by omega) (Nat.lt_of_le_of_lt Nat.and_le_left hm)
      refine ⟨m', a, b, fun q => ?_⟩
      rw [d q, Nat.testBit_and, Bool.and_eq_true, h5 q]
      constructor
      · rintro ⟨⟨h6, h7⟩, h8⟩
        refine ⟨h6, fun b h9 h10 => ?_⟩
        by_cases e2 : b = i
        · subst e2; exact h7
        · exact h8 b (by omega) h10
      · rintro ⟨h6, h7⟩
        exact ⟨⟨h6, h7 i (Nat.le_refl _) (by omega)⟩, fun b h9 h10 => h7 b (by omega) h10⟩
theorem s_passed {c : Nat → Nat} {P B : Nat} {ct : Nat → Int32} (hc : okc c P) (hP : P ≤ 40) (hr : AR ct c P) (hB : B ≤ P) (hB1 : 1 ≤ B) :
    ∃ m, f_X2_passedByAll (nI P) (nI B) ct = some (lN m) ∧ m < 2 ^ 64 ∧ ∀ q, m.testBit q = psd c P B q := by
  obtain ⟨m, h1, h2, h3⟩ := s_passed_6 hc hP hr hB FU 0 (2 ^ 64 - 1) (Nat.zero_le _) (FU_ge (by omega)) (by decide)
  refine ⟨m, by rw [f_X2_passedByAll, lN_m1]; exact h1, h2, fun q => ?_⟩
  have e : m.testBit q = true ↔ psd c P B q = true := by
    rw [h3 q, psd_iff]
    constructor
    · rintro ⟨_, h⟩ b hb; exact h b (Nat.zero_le _) hb
    · intro h
      refine ⟨?_, fun b _ hb => h b hb⟩
      have := (rs_ge hc 0 (by omega) q (h 0 (by omega))).2
      rw [Nat.testBit_two_pow_sub_one, decide_eq_true_eq]; omega
  cases h : psd c P B q with
  | true => exact e.mpr h
  | false => cases h5 : m.testBit q with
    | true => rw [e.mp h5] at h; cases h
    | false => rfl
