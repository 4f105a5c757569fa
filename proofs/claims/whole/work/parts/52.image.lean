/-! ===== image and restore ===== -/
def IM (k : Nat) (image : Nat → Int32) (P B C A S : Int32) (tx wt sf so : Nat → Int32) : Prop :=
  (∀ i, i < 40 → image (68 * k + i) = tx i) ∧ (∀ i, i < 11 → image (68 * k + 40 + i) = wt i) ∧ (∀ i, i < 6 → image (68 * k + 51 + 2 * i) = sf i ∧ image (68 * k + 51 + (2 * i + 1)) = so i) ∧ image (68 * k + 63) = P ∧ image (68 * k + 64) = B ∧ image (68 * k + 65) = C ∧ image (68 * k + 66) = A ∧ image (68 * k + 67) = S
def II (k : Nat) (image kept : Nat → Int32) (P B C A S K : Int32) (tx wt sf so : Nat → Int32) : Prop :=
  (∃ ik, SG tx ik) ∧ ((K = 0 ∧ kept k = 0) ∨ (K = 1 ∧ kept k = 1 ∧ TI P B C A S tx wt sf so ∧ IM k image P B C A S tx wt sf so))
theorem TI.sg {P B C A S : Int32} {tx wt sf so : Nat → Int32} (h : TI P B C A S tx wt sf so) : ∃ tk, SG tx tk := by
  obtain ⟨p, b, c, st, tk, w, _, _, _, _, hpg, _⟩ := h
  exact ⟨tk, hpg.1⟩
theorem TI_fill {P B C A S : Int32} {tx wt sf so tx' : Nat → Int32} {tk' : Nat → Nat} (h : TI P B C A S tx wt sf so) (hg : SG tx' tk') (wt' sf' so' : Nat → Int32) : TI P B C A S (fa_fill tx tx' 40) (fa_fill wt wt' 11) (fa_fill sf sf' 6) (fa_fill so so' 6) := by
  obtain ⟨p, b, c, st, tk, w, e1, e2, e3, e4, hpg, hw, ha, hst, hsb⟩ := h
  refine ⟨p, b, c, st, _, w, e1, e2, e3, e4, PG_fill hpg hg hpg.2.2.1, ⟨fun d d1 d2 => ?_, hw.2⟩, ha, hst, fun i hi => ?_⟩
  · rw [fa_fill_in (by omega)]; exact hw.1 d d1 d2
  · rw [fa_fill_in (by omega), fa_fill_in (by omega)]; exact hsb i hi
theorem s_copy {tx : Nat → Int32} {tk : Nat → Nat} (hg : SG tx tk) (P B C A S : Int32) (tx' wt wt' sf sf' so so' : Nat → Int32) : f_X3_copy P B C A S tx tx' wt wt' sf sf' so so' = some (P, B, C, A, S, fa_fill tx tx' 40, fa_fill wt wt' 11, fa_fill sf sf' 6, fa_fill so so' 6) := by
  rw [f_X3_copy, fit_t hg, ck_t, show ix (0 : Int32) = 0 from rfl, show ix (40 : Int32) = 40 from rfl, show ix (11 : Int32) = 11 from rfl, show ix (6 : Int32) = 6 from rfl, cpy_fill, cpy_fill, cpy_fill, cpy_fill]
theorem cpy_succ (f g : Nat → Int32) (d i : Nat) : upd (va_cpy f g 0 d i) (d + i) (f i) = va_cpy f g 0 d (i + 1) := by
  funext q
  rw [upd_at]
  unfold va_cpy
  by_cases e : q = d + i
  · rw [if_pos e, if_pos (And.intro (show d ≤ q by omega) (show q < d + (i + 1) by omega))]
    congr 1; omega
  · rw [if_neg e]
    by_cases e2 : d ≤ q ∧ q < d + i
    · rw [if_pos e2, if_pos (And.intro e2.1 (show q < d + (i + 1) by omega))]
    · rw [if_neg e2, if_neg (fun z => e2 ⟨z.1, by omega⟩)]
theorem cpy_0 (f g : Nat → Int32) (d : Nat) : va_cpy f g 0 d 0 = g := by
  funext q
  unfold va_cpy
  rw [if_neg (fun z => by omega)]
theorem cpy_in {f g : Nat → Int32} {d n i : Nat} (h : i < n) : va_cpy f g 0 d n (d + i) = f i := by
  unfold va_cpy
  rw [if_pos (And.intro (show d ≤ d + i by omega) (show d + i < d + n by omega))]
  congr 1; omega
theorem cpy_no {f g : Nat → Int32} {d n q : Nat} (h : q < d ∨ d + n ≤ q) : va_cpy f g 0 d n q = g q := by
  unfold va_cpy
  rw [if_neg (fun z => by omega)]
section IMG
variable {k : Nat}
theorem s_image_78 (hk : k < 2) (P B C A S : Int32) (sight im kept : Nat → Int32) : ∀ (n i : Nat), i ≤ 12 → 12 - i < n →
    f_X6_image_78 (nI k) P B C A S sight n (nI (68 * k)) (nI i) (va_cpy sight im 0 (68 * k + 51) i) kept = some (1, upd (upd (upd (upd (upd (va_cpy sight im 0 (68 * k + 51) 12) (68 * k + 63) P) (68 * k + 64) B) (68 * k + 65) C) (68 * k + 66) A) (68 * k + 67) S, upd kept k 1) := by
  intro n
  induction n with
  | zero => intro i h1 h2; omega
  | succ n ih =>
    intro i h1 h2
    rw [f_X6_image_78, q_12]
    by_cases e : i = 12
    · subst e
      have a63 : nI (68 * k) + (63 : Int32) = nI (68 * k + 63) := nI_add _ 63
      have a64 : nI (68 * k) + (64 : Int32) = nI (68 * k + 64) := nI_add _ 64
      have a65 : nI (68 * k) + (65 : Int32) = nI (68 * k + 65) := nI_add _ 65
      have a66 : nI (68 * k) + (66 : Int32) = nI (68 * k + 66) := nI_add _ 66
      have a67 : nI (68 * k) + (67 : Int32) = nI (68 * k + 67) := nI_add _ 67
      rw [if_pos (ile (Nat.le_refl _) (by omega)), a63, a64, a65, a66, a67, inB_t (show 68 * k + 63 < 136 by omega) (by omega), ck_t, inB_t (show 68 * k + 64 < 136 by omega) (by omega), ck_t, inB_t (show 68 * k + 65 < 136 by omega) (by omega), ck_t, inB_t (show 68 * k + 66 < 136 by omega) (by omega), ck_t, inB_t (show 68 * k + 67 < 136 by omega) (by omega), ck_t, inB_t hk (by omega), ck_t, ix_nI (show 68 * k + 63 < 2 ^ 31 by omega), ix_nI (show 68 * k + 64 < 2 ^ 31 by omega), ix_nI (show 68 * k + 65 < 2 ^ 31 by omega), ix_nI (show 68 * k + 66 < 2 ^ 31 by omega), ix_nI (show 68 * k + 67 < 2 ^ 31 by omega), ix_nI (show k < 2 ^ 31 by omega)]
      rfl
    · have a51 : nI (68 * k) + (51 : Int32) = nI (68 * k + 51) := nI_add _ 51
      rw [if_neg (inle (by omega) (by omega)), a51, nI_add, nI_p1, inB_t (show i < 12 by omega) (by omega), ck_t, inB_t (show 68 * k + 51 + i < 136 by omega) (by omega), ck_t, ix_nI (show i < 2 ^ 31 by omega), ix_nI (show 68 * k + 51 + i < 2 ^ 31 by omega), cpy_succ]
      exact ih (i + 1) (by omega) (by omega)
theorem s_image_47 (hk : k < 2) (P B C A S : Int32) (wt sight im kept : Nat → Int32) : ∀ (n i : Nat), i ≤ 11 → 11 - i < n →
    f_X6_image_47 (nI k) P B C A S wt sight n (nI (68 * k)) (nI i) (va_cpy wt im 0 (68 * k + 40) i) kept = some (1, upd (upd (upd (upd (upd (va_cpy sight (va_cpy wt im 0 (68 * k + 40) 11) 0 (68 * k + 51) 12) (68 * k + 63) P) (68 * k + 64) B) (68 * k + 65) C) (68 * k + 66) A) (68 * k + 67) S, upd kept k 1) := by
  intro n
  induction n with
  | zero => intro i h1 h2; omega
  | succ n ih =>
    intro i h1 h2
    rw [f_X6_image_47, q_11]
    by_cases e : i = 11
    · subst e
      rw [if_pos (ile (Nat.le_refl _) (by omega))]
      have := s_image_78 hk P B C A S sight (va_cpy wt im 0 (68 * k + 40) 11) kept FU 0 (by omega) (FU_ge (by omega))
      rw [cpy_0] at this
      exact this
    · have a40 : nI (68 * k) + (40 : Int32) = nI (68 * k + 40) := nI_add _ 40
      rw [if_neg (inle (by omega) (by omega)), a40, nI_add, nI_p1, inB_t (show i < 11 by omega) (by omega), ck_t, inB_t (show 68 * k + 40 + i < 136 by omega) (by omega), ck_t, ix_nI (show i < 2 ^ 31 by omega), ix_nI (show 68 * k + 40 + i < 2 ^ 31 by omega), cpy_succ]
      exact ih (i + 1) (by omega) (by omega)
theorem s_image_19 (hk : k < 2) (P B C A S : Int32) (pg wt sight im kept : Nat → Int32) : ∀ (n i : Nat), i ≤ 40 → 40 - i < n →
    f_X6_image_19 (nI k) P B C A S pg wt sight n (nI (68 * k)) (nI i) (va_cpy pg im 0 (68 * k) i) kept = some (1, upd (upd (upd (upd (upd (va_cpy sight (va_cpy wt (va_cpy pg im 0 (68 * k) 40) 0 (68 * k + 40) 11) 0 (68 * k + 51) 12) (68 * k + 63) P) (68 * k + 64) B) (68 * k + 65) C) (68 * k + 66) A) (68 * k + 67) S, upd kept k 1) := by
  intro n
  induction n with
  | zero => intro i h1 h2; omega
  | succ n ih =>
    intro i h1 h2
    rw [f_X6_image_19, q_40]
    by_cases e : i = 40
    · subst e
      rw [if_pos (ile (Nat.le_refl _) (by omega))]
      have := s_image_47 hk P B C A S wt sight (va_cpy pg im 0 (68 * k) 40) kept FU 0 (by omega) (FU_ge (by omega))
      rw [cpy_0] at this
      exact this
    · rw [if_neg (inle (by omega) (by omega)), nI_add, nI_p1, inB_t (show i < 40 by omega) (by omega), ck_t, inB_t (show 68 * k + i < 136 by omega) (by omega), ck_t, ix_nI (show i < 2 ^ 31 by omega), ix_nI (show 68 * k + i < 2 ^ 31 by omega), cpy_succ]
      exact ih (i + 1) (by omega) (by omega)
theorem s_image (hk : k < 2) (P B C A S : Int32) {tx wt sf so sight : Nat → Int32} (hsi : SI sight sf so) (im kept : Nat → Int32) :
    ∃ im', f_X6_image_19 (nI k) P B C A S tx wt sight FU (nI (68 * k)) 0 im kept = some (1, im', upd kept k 1) ∧ IM k im' P B C A S tx wt sf so ∧ ∀ q, (q < 68 * k ∨ 68 * k + 68 ≤ q) → im' q = im q := by
  have h := s_image_19 hk P B C A S tx wt sight im kept FU 0 (by omega) (FU_ge (by omega))
  rw [cpy_0] at h
  refine ⟨_, h, ⟨fun i hi => ?_, fun i hi => ?_, fun i hi => ⟨?_, ?_⟩, ?_, ?_, ?_, ?_, ?_⟩, fun q hq => ?_⟩
  · simp only [upd_at]
    rw [if_neg (by omega), if_neg (by omega), if_neg (by omega), if_neg (by omega), if_neg (by omega), cpy_no (by omega), cpy_no (by omega), cpy_in hi]
  · simp only [upd_at]
    rw [if_neg (by omega), if_neg (by omega), if_neg (by omega), if_neg (by omega), if_neg (by omega), cpy_no (by omega), cpy_in hi]
  · simp only [upd_at]
    rw [if_neg (by omega), if_neg (by omega), if_neg (by omega), if_neg (by omega), if_neg (by omega), cpy_in (by omega)]
    exact (hsi i hi).1
  · simp only [upd_at]
    rw [if_neg (by omega), if_neg (by omega), if_neg (by omega), if_neg (by omega), if_neg (by omega), cpy_in (by omega)]
    exact (hsi i hi).2
  · simp only [upd_at]
    rw [if_neg (by omega), if_neg (by omega), if_neg (by omega), if_neg (by omega), if_pos trivial]
  · simp only [upd_at]
    rw [if_neg (by omega), if_neg (by omega), if_neg (by omega), if_pos trivial]
  · simp only [upd_at]
    rw [if_neg (by omega), if_neg (by omega), if_pos trivial]
  · simp only [upd_at]
    rw [if_neg (by omega), if_pos trivial]
  · simp only [upd_at]
    rw [if_pos trivial]
  · simp only [upd_at]
    rw [if_neg (by omega), if_neg (by omega), if_neg (by omega), if_neg (by omega), if_neg (by omega), cpy_no (by omega), cpy_no (by omega), cpy_no (by omega)]
theorem IM_same {image im' : Nat → Int32} {P B C A S : Int32} {tx wt sf so : Nat → Int32} (h : IM k image P B C A S tx wt sf so) (he : ∀ q, 68 * k ≤ q → q < 68 * k + 68 → im' q = image q) : IM k im' P B C A S tx wt sf so := by
  obtain ⟨h1, h2, h3, h4, h5, h6, h7, h8⟩ := h
  refine ⟨fun i hi => ?_, fun i hi => ?_, fun i hi => ⟨?_, ?_⟩, ?_, ?_, ?_, ?_, ?_⟩
  · rw [he _ (by omega) (by omega)]; exact h1 i hi
  · rw [he _ (by omega) (by omega)]; exact h2 i hi
  · rw [he _ (by omega) (by omega)]; exact (h3 i hi).1
  · rw [he _ (by omega) (by omega)]; exact (h3 i hi).2
  · rw [he _ (by omega) (by omega)]; exact h4
  · rw [he _ (by omega) (by omega)]; exact h5
  · rw [he _ (by omega) (by omega)]; exact h6
  · rw [he _ (by omega) (by omega)]; exact h7
  · rw [he _ (by omega) (by omega)]; exact h8
theorem IM_fill {image : Nat → Int32} {P B C A S : Int32} {tx wt sf so : Nat → Int32} (h : IM k image P B C A S tx wt sf so) (tx' wt' sf' so' : Nat → Int32) : IM k image P B C A S (fa_fill tx tx' 40) (fa_fill wt wt' 11) (fa_fill sf sf' 6) (fa_fill so so' 6) := by
  obtain ⟨h1, h2, h3, h4⟩ := h
  refine ⟨fun i hi => ?_, fun i hi => ?_, fun i hi => ?_, h4⟩
  · rw [fa_fill_in hi]; exact h1 i hi
  · rw [fa_fill_in hi]; exact h2 i hi
  · rw [fa_fill_in hi, fa_fill_in hi]; exact h3 i hi
end IMG
theorem two_cases (x : Int32) : x < 0 ∨ (¬ x < 0 ∧ ¬ x < 2) ∨ x = nI 0 ∨ x = nI 1 := by
  rcases i32_cases x (n := 2) (by decide) with h | h | ⟨j, hj, rfl⟩
  · exact Or.inl h
  · by_cases h0 : x < 0
    · exact Or.inl h0
    · exact Or.inr (Or.inl ⟨h0, nlt_of_le h⟩)
  · have : j = 0 ∨ j = 1 := by omega
    rcases this with e | e <;> subst e
    · exact Or.inr (Or.inr (Or.inl rfl))
    · exact Or.inr (Or.inr (Or.inr rfl))
theorem no01 {x : Int32} (h : x < 0 ∨ (¬ x < 0 ∧ ¬ x < 2)) : ¬ ((0 : Int32) ≤ x ∧ x ≤ 1) := fun q => by
  rcases h with h | ⟨h1, h2⟩
  · exact nle_of_lt h q.1
  · exact h2 (by
      have := q.2
      rw [fa_le] at this; rw [fa_lt]
      have : (1 : Int32).toInt = 1 := rfl
      have : (2 : Int32).toInt = 2 := rfl
      omega)
section IMG2
variable {P B C A S P0 B0 C0 A0 S0 K0 P1 B1 C1 A1 S1 K1 : Int32} {tx wt sf so sight tx0 wt0 sf0 so0 tx1 wt1 sf1 so1 image kept : Nat → Int32}
theorem t_image (ht : TI P B C A S tx wt sf so) (hsi : SI sight sf so) (h0 : II 0 image kept P0 B0 C0 A0 S0 K0 tx0 wt0 sf0 so0) (h1 : II 1 image kept P1 B1 C1 A1 S1 K1 tx1 wt1 sf1 so1) (x : Int32) :
    ∃ a P0' B0' C0' A0' S0' K0' P1' B1' C1' A1' S1' K1' tx0' wt0' sf0' so0' tx1' wt1' sf1' so1' image' kept', f_X5_image x P0 B0 C0 A0 S0 K0 P1 B1 C1 A1 S1 K1 P B C A S tx tx0 wt wt0 sf sf0 so so0 tx1 wt1 sf1 so1 = some (a, P0', B0', C0', A0', S0', K0', P1', B1', C1', A1', S1', K1', tx0', wt0', sf0', so0', tx1', wt1', sf1', so1') ∧ f_X6_image x P B C A S image tx wt kept sight = some (a, image', kept') ∧ II 0 image' kept' P0' B0' C0' A0' S0' K0' tx0' wt0' sf0' so0' ∧ II 1 image' kept' P1' B1' C1' A1' S1' K1' tx1' wt1' sf1' so1' := by
  obtain ⟨tk, hsg⟩ := ht.sg
  obtain ⟨ik0, hg0⟩ := h0.1
  obtain ⟨ik1, hg1⟩ := h1.1
  have hn : ∀ k : Nat, (fun q => upd kept k 1 q) k = 1 := fun k => by dsimp only; rw [upd_at, if_pos rfl]
  have out : (x < 0 ∨ (¬ x < 0 ∧ ¬ x < 2)) → f_X6_image x P B C A S image tx wt kept sight = some (-2, image, kept) := fun h => by
    rw [f_X6_image, s_in, bd_s, ite10, if_neg (no01 h)]
  rcases two_cases x with h | h | rfl | rfl
  · rw [out (Or.inl h), f_X5_image, if_pos h]
    exact ⟨_, _, _, _, _, _, _, _, _, _, _, _, _, _, _, _, _, _, _, _, _, _, _, rfl, rfl, h0, h1⟩
  · rw [out (Or.inr h), f_X5_image, if_neg h.1, if_neg h.2]
    exact ⟨_, _, _, _, _, _, _, _, _, _, _, _, _, _, _, _, _, _, _, _, _, _, _, rfl, rfl, h0, h1⟩
  · obtain ⟨im', k1, k2, k3⟩ := s_image (k := 0) (by decide) P B C A S (tx := tx) (wt := wt) hsi image kept
    have k1' : f_X6_image_19 (nI 0) P B C A S tx wt sight FU ((68 : Int32) * nI 0) 0 image kept = some (1, im', upd kept 0 1) := k1
    rw [f_X6_image, s_in, bd_s, ite10, if_pos (show (0 : Int32) ≤ nI 0 ∧ nI 0 ≤ 1 by decide), k1', f_X5_image, if_neg (show ¬ nI 0 < 0 by decide), if_pos (show nI 0 < 2 by decide), if_pos (show nI 0 = 0 from rfl), s_copy hsg, bd_s, if_pos (show nI 0 = 0 from rfl)]
    refine ⟨_, _, _, _, _, _, _, _, _, _, _, _, _, _, _, _, _, _, _, _, _, _, _, rfl, rfl, ⟨⟨_, SG_fill hsg hg0 40⟩, Or.inr ⟨rfl, by rw [upd_at, if_pos rfl], TI_fill ht hg0 _ _ _, IM_fill k2 _ _ _ _⟩⟩, ⟨ik1, hg1⟩, ?_⟩
    rcases h1.2 with ⟨a, b⟩ | ⟨a, b, c, d⟩
    · exact Or.inl ⟨a, by rw [upd_at, if_neg (by decide)]; exact b⟩
    · exact Or.inr ⟨a, by rw [upd_at, if_neg (by decide)]; exact b, c, IM_same d (fun q q1 q2 => k3 q (Or.inr (by omega)))⟩
  · obtain ⟨im', k1, k2, k3⟩ := s_image (k := 1) (by decide) P B C A S (tx := tx) (wt := wt) hsi image kept
    have k1' : f_X6_image_19 (nI 1) P B C A S tx wt sight FU ((68 : Int32) * nI 1) 0 image kept = some (1, im', upd kept 1 1) := k1
    rw [f_X6_image, s_in, bd_s, ite10, if_pos (show (0 : Int32) ≤ nI 1 ∧ nI 1 ≤ 1 by decide), k1', f_X5_image, if_neg (show ¬ nI 1 < 0 by decide), if_pos (show nI 1 < 2 by decide), if_neg (show ¬ nI 1 = 0 by decide), if_pos (show nI 1 = 1 from rfl), s_copy hsg, bd_s, if_neg (show ¬ nI 1 = 0 by decide), if_pos (show nI 1 = 1 from rfl)]
    refine ⟨_, _, _, _, _, _, _, _, _, _, _, _, _, _, _, _, _, _, _, _, _, _, _, rfl, rfl, ⟨⟨ik0, hg0⟩, ?_⟩, ⟨_, SG_fill hsg hg1 40⟩, Or.inr ⟨rfl, by rw [upd_at, if_pos rfl], TI_fill ht hg1 _ _ _, IM_fill k2 _ _ _ _⟩⟩
    rcases h0.2 with ⟨a, b⟩ | ⟨a, b, c, d⟩
    · exact Or.inl ⟨a, by rw [upd_at, if_neg (by decide)]; exact b⟩
    · exact Or.inr ⟨a, by rw [upd_at, if_neg (by decide)]; exact b, c, IM_same d (fun q q1 q2 => k3 q (Or.inl (by omega)))⟩
end IMG2
