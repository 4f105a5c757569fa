/-! ===== leastBit, bitAt, manyEnds ===== -/
theorem lN_neg {m : Nat} (h : m ≤ 2 ^ 64) : -(lN m) = lN (2 ^ 64 - m) := by
  have h1 : lN m + lN (2 ^ 64 - m) = 0 := by
    rw [lN_add, Nat.add_sub_cancel' h]; decide
  have h2 : -(lN m) + (lN m + lN (2 ^ 64 - m)) = lN (2 ^ 64 - m) := by
    rw [← Int64.add_assoc, Int64.add_left_neg, Int64.zero_add]
  rw [h1, Int64.add_zero] at h2
  exact h2
theorem low_form {m k : Nat} (hk : m.testBit k = true) (hl : ∀ i, i < k → m.testBit i = false) : ∃ j, m = 2 ^ k * (2 * j + 1) := by
  have h0 : m % 2 ^ k = 0 := by
    apply Nat.eq_of_testBit_eq
    intro i
    rw [Nat.testBit_mod_two_pow, Nat.zero_testBit]
    by_cases h : i < k
    · rw [hl i h, Bool.and_false]
    · rw [decide_eq_false h, Bool.false_and]
  have h1 : m / 2 ^ k % 2 = 1 := by
    rw [Nat.testBit_eq_decide_div_mod_eq, decide_eq_true_eq] at hk; exact hk
  refine ⟨m / 2 ^ k / 2, ?_⟩
  have h2 := Nat.div_add_mod m (2 ^ k)
  have h3 : m / 2 ^ k = 2 * (m / 2 ^ k / 2) + 1 := by omega
  rw [← h3]
  omega
theorem and_low {m k : Nat} (hm : m < 2 ^ 64) (hk : m.testBit k = true) (hl : ∀ i, i < k → m.testBit i = false) : m &&& (2 ^ 64 - m) = 2 ^ k := by
  obtain ⟨j, hj⟩ := low_form hk hl
  have hpos : 0 < m := by
    rcases Nat.eq_zero_or_pos m with h | h
    · rw [h, Nat.zero_testBit] at hk; cases hk
    · exact h
  have h2k : 0 < 2 ^ k := Nat.two_pow_pos k
  have hm1 : m - 1 = 2 ^ k * (2 * j) + (2 ^ k - 1) := by
    rw [Nat.mul_add, Nat.mul_one] at hj; omega
  have e : 2 ^ 64 - m = 2 ^ 64 - ((m - 1) + 1) := by omega
  apply Nat.eq_of_testBit_eq
  intro i
  rw [Nat.testBit_and, e, Nat.testBit_two_pow_sub_succ (by omega), tb_pow, hm1, Nat.testBit_two_pow_mul_add _ (by omega)]
  by_cases h1 : i < k
  · rw [hl i h1, Bool.false_and, decide_eq_false (by omega)]
  · by_cases h2 : i = k
    · subst h2
      rw [hk, if_neg h1, Nat.sub_self, decide_eq_true rfl]
      have hi : i < 64 := by
        rcases Nat.lt_or_ge i 64 with q | q
        · exact q
        · rw [Nat.testBit_lt_two_pow (Nat.lt_of_lt_of_le hm (Nat.pow_le_pow_right (by decide) q))] at hk; cases hk
      rw [decide_eq_true hi, Bool.true_and, Bool.true_and, Nat.testBit_zero]
      simp
    · rw [if_neg h1, decide_eq_false h2]
      have h3 : m.testBit i = (2 * j).testBit (i - k) := by
        rw [hj, Nat.mul_add, Nat.mul_one]
        have hlt : (1 : Nat) < 2 ^ 1 := by decide
        have g : (2 ^ k * (2 * j) + 2 ^ k) = 2 ^ k * (2 * j + 1) + 0 := by rw [Nat.mul_add, Nat.mul_one, Nat.add_zero]
        rw [g, Nat.testBit_two_pow_mul_add _ h2k, if_neg h1]
        obtain ⟨d, hd⟩ : ∃ d, i - k = d + 1 := ⟨i - k - 1, by omega⟩
        rw [hd, Nat.testBit_succ, Nat.testBit_succ]
        congr 1
        omega
      rw [h3]
      cases (2 * j).testBit (i - k) with
      | true => simp
      | false => simp
theorem ct_lt (k : Nat) : ∀ n, fb_ct (fun i => decide (i < k)) n = min k n
  | 0 => by rw [Nat.min_zero]; rfl
  | n + 1 => by
    rw [fb_ct_succ, ct_lt k n]
    by_cases h : n < k
    · simp [h]; omega
    · simp [h]; omega
theorem pct_ones {k : Nat} (hk : k ≤ 64) : pct (2 ^ k - 1) 64 = k := by
  unfold pct
  rw [fb_ct_cong (q := fun i => decide (i < k)) (fun i _ => by rw [Nat.testBit_two_pow_sub_one]), ct_lt]
  omega
theorem s_leastBit {m k : Nat} (hm : m < 2 ^ 64) (hk : m.testBit k = true) (hl : ∀ i, i < k → m.testBit i = false) : f_X5_leastBit (lN m) = some (nI k) := by
  have hk64 : k < 64 := by
    rcases Nat.lt_or_ge k 64 with q | q
    · exact q
    · rw [Nat.testBit_lt_two_pow (Nat.lt_of_lt_of_le hm (Nat.pow_le_pow_right (by decide) q))] at hk; cases hk
  have h1 : 1 ≤ 2 ^ k := Nat.two_pow_pos k
  have h2 : 2 ^ k < 2 ^ 64 := Nat.pow_lt_pow_right (by decide) hk64
  rw [f_X5_leastBit, lN_neg (by omega), fb_andL, and_low hm hk hl, show (1 : Int64) = lN 1 from rfl, lN_sub h1, s_bitCount (by omega), bd_s, pct_ones (by omega)]
/-- the i-th place of a kind, i an int -/
def glk (pd : Nat → Bool) (x : Int32) : Nat → Nat → Nat → Option Nat
  | 0, _, _ => none
  | r + 1, p, k => if pd p = true then (if nI k = x then some p else glk pd x r (p + 1) (k + 1)) else glk pd x r (p + 1) k
def noneI (o : Option Nat) : Int32 := match o with
  | some p => nI p
  | none => -6
theorem s_bitAt_5 {m : Nat} (hm : m < 2 ^ 64) (x : Int32) : ∀ (n p k : Nat), p ≤ 40 → 40 - p < n → k ≤ p → f_X5_bitAt_5 (lN m) x n (nI k) (nI p) = some (noneI (glk (fun q => m.testBit q) x (40 - p) p k)) := by
  intro n
  induction n with
  | zero => intro p k h1 h2; omega
  | succ n ih =>
    intro p k h1 h2 h3
    rw [f_X5_bitAt_5]
    by_cases e : p = 40
    · subst e; rw [q_40, if_pos (ile (Nat.le_refl _) (by omega))]; rfl
    · obtain ⟨r, hr⟩ : ∃ r, 40 - p = r + 1 := ⟨40 - p - 1, by omega⟩
      rw [q_40, if_neg (inle (by omega) (by omega)), hr, glk]
      simp only [nI_p1]
      by_cases hb : m.testBit p = true
      · rw [if_neg (fun q => by rw [(tb_test hm (by omega)).mp q] at hb; cases hb), if_pos hb]
        by_cases e2 : nI k = x
        · rw [if_pos e2, if_pos e2]; rfl
        · rw [if_neg e2, if_neg e2, ih (p + 1) (k + 1) (by omega) (by omega) (by omega), show 40 - (p + 1) = r by omega]
      · have hb' : m.testBit p = false := by cases h : m.testBit p with
          | true => exact absurd h hb
          | false => rfl
        rw [if_pos ((tb_test hm (by omega)).mpr hb'), if_neg hb, ih (p + 1) k (by omega) (by omega) (by omega), show 40 - (p + 1) = r by omega]
theorem s_bitAt {m : Nat} (hm : m < 2 ^ 64) (x : Int32) : f_X5_bitAt (lN m) x = some (noneI (glk (fun q => m.testBit q) x 40 0 0)) := by
  rw [f_X5_bitAt]
  exact s_bitAt_5 hm x FU 0 0 (by omega) (FU_ge (by omega)) (by omega)
theorem glk_cong {pd pe : Nat → Bool} (x : Int32) : ∀ (r p k : Nat), (∀ q, p ≤ q → pd q = pe q) → glk pd x r p k = glk pe x r p k := by
  intro r
  induction r with
  | zero => intro p k h; rfl
  | succ r ih =>
    intro p k h
    rw [glk, glk, h p (Nat.le_refl _), ih (p + 1) (k + 1) (fun q hq => h q (by omega)), ih (p + 1) k (fun q hq => h q (by omega))]
theorem glk_none {pd : Nat → Bool} (x : Int32) : ∀ (r p k : Nat), (∀ q, p ≤ q → pd q = false) → glk pd x r p k = none := by
  intro r
  induction r with
  | zero => intro p k h; rfl
  | succ r ih =>
    intro p k h
    rw [glk, h p (Nat.le_refl _), if_neg (by decide), ih (p + 1) k (fun q hq => h q (by omega))]
theorem glk_cut {pd : Nat → Bool} (x : Int32) {P : Nat} (hP : ∀ q, P ≤ q → pd q = false) : ∀ (r p k : Nat), P ≤ p + r → glk pd x r p k = glk pd x (P - p) p k := by
  intro r
  induction r with
  | zero => intro p k h; rw [show P - p = 0 by omega]
  | succ r ih =>
    intro p k h
    by_cases h2 : P ≤ p
    · rw [show P - p = 0 by omega, glk_none x _ _ _ (fun q hq => hP q (by omega))]; rfl
    · obtain ⟨d, hd⟩ : ∃ d, P - p = d + 1 := ⟨P - p - 1, by omega⟩
      rw [hd, glk, glk, ih (p + 1) (k + 1) (by omega), ih (p + 1) k (by omega), show P - (p + 1) = d by omega]
/-- how many places are OUT of some beginning -/
def strs (c : Nat → Nat) (P B : Nat) : Nat := fb_ct (fun q => (List.range B).any (fun b => decide (ou c P b = q))) 64
theorem any_iff {B q : Nat} {g : Nat → Nat} : (List.range B).any (fun b => decide (g b = q)) = true ↔ ∃ b, b < B ∧ g b = q := by
  rw [List.any_eq_true]
  constructor
  · rintro ⟨b, h1, h2⟩; exact ⟨b, List.mem_range.mp h1, of_decide_eq_true h2⟩
  · rintro ⟨b, h1, h2⟩; exact ⟨b, List.mem_range.mpr h1, decide_eq_true h2⟩
theorem s_manyEnds_4 {e : Nat → Nat} {B : Nat} {en : Nat → Int32} (hB : B ≤ 40) (he : ∀ i, i < B → en i = nI (e i) ∧ e i < 40) : ∀ (n i m : Nat), i ≤ B → B - i < n → m < 2 ^ 64 → (∀ q, m.testBit q = (List.range i).any (fun b => decide (e b = q))) →
    f_X2_manyEnds_4 (nI B) en n (lN m) (nI i) = some (nI (fb_ct (fun q => (List.range B).any (fun b => decide (e b = q))) 64)) := by
  intro n
  induction n with
  | zero => intro i m h1 h2; omega
  | succ n ih =>
    intro i m h1 h2 hm hq
    rw [f_X2_manyEnds_4]
    by_cases e2 : i = B
    · subst e2
      rw [if_pos (ile (Nat.le_refl _) (by omega)), s_bitCount hm, bd_s]
      unfold pct
      rw [fb_ct_cong (fun q _ => hq q)]
    · have hi := he i (by omega)
      rw [if_neg (inle (by omega) (by omega)), inB_t (by omega) (by omega), ck_t, ix_nI (by omega), hi.1, shl_1 (by omega), fb_orL, nI_p1]
      refine ih (i + 1) _ (by omega) (by omega) (or_lt hm (by omega)) (fun q => ?_)
      rw [fb_bit_set, hq q, List.range_succ, List.any_append]
      congr 1
      simp only [List.any_cons, List.any_nil, Bool.or_false]
      by_cases h3 : q = e i
      · rw [decide_eq_true h3, decide_eq_true h3.symm]
      · rw [decide_eq_false h3, decide_eq_false (fun q2 => h3 q2.symm)]
theorem s_manyEnds {e : Nat → Nat} {B : Nat} {en : Nat → Int32} (hB : B ≤ 40) (he : ∀ i, i < B → en i = nI (e i) ∧ e i < 40) :
    f_X2_manyEnds (nI B) en = some (nI (fb_ct (fun q => (List.range B).any (fun b => decide (e b = q))) 64)) :=
  s_manyEnds_4 hB he FU 0 0 (Nat.zero_le _) (FU_ge (by omega)) (by decide) (fun q => by rw [Nat.zero_testBit]; rfl)
/-- distinct values: by first comers, or by value -/
theorem ct_any_new (g : Nat → Nat) (N : Nat) : ∀ B, (∀ b, b < B → g b < N) → fb_ct (fun q => (List.range B).any (fun b => decide (g b = q))) N = fb_ct (fun p => !(List.range p).any (fun b => decide (g b = g p))) B
  | 0, _ => by
    rw [show fb_ct (fun p => !(List.range p).any (fun b => decide (g b = g p))) 0 = 0 from rfl]
    exact fb_ct_zero.mpr (fun k _ => rfl)
  | B + 1, h => by
    have ih := ct_any_new g N B (fun b hb => h b (by omega))
    rw [fb_ct_succ, ← ih]
    have hB := h B (by omega)
    have e1 : ∀ q, (List.range (B + 1)).any (fun b => decide (g b = q)) = if q = g B then true else (List.range B).any (fun b => decide (g b = q)) := fun q => by
      rw [List.range_succ, List.any_append]
      simp only [List.any_cons, List.any_nil, Bool.or_false]
      by_cases h3 : q = g B
      · rw [if_pos h3, decide_eq_true h3.symm, Bool.or_true]
      · rw [if_neg h3, decide_eq_false (fun q2 => h3 q2.symm), Bool.or_false]
    have e2 := fb_ct_upd (fun q => (List.range B).any (fun b => decide (g b = q))) true hB
    rw [fb_ct_cong (fun q _ => e1 q)]
    try dsimp only at e2
    cases hany : (List.range B).any (fun b => decide (g b = g B)) with
    | true => rw [hany] at e2; simp at e2 ⊢; omega
    | false => rw [hany] at e2; simp at e2 ⊢; omega
