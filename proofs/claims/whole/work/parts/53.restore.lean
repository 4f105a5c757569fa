theorem s_restore_90 {k : Nat} (hk : k < 2) (im : Nat → Int32) (P B C A S : Int32) (pg wt sg : Nat → Int32) : ∀ (n i : Nat), i ≤ 12 → 12 - i < n →
    f_X6_restore_90 im n (nI (68 * k)) (nI i) P B C A S pg wt (fa_fill (fun j => im (68 * k + 51 + j)) sg i) = some (1, im (68 * k + 63), im (68 * k + 64), im (68 * k + 65), im (68 * k + 66), im (68 * k + 67), pg, wt, fa_fill (fun j => im (68 * k + 51 + j)) sg 12) := by
  intro n
  induction n with
  | zero => intro i h1 h2; omega
  | succ n ih =>
    intro i h1 h2
    rw [f_X6_restore_90, q_12]
    by_cases e : i = 12
    · subst e
      have a63 : nI (68 * k) + (63 : Int32) = nI (68 * k + 63) := nI_add _ 63
      have a64 : nI (68 * k) + (64 : Int32) = nI (68 * k + 64) := nI_add _ 64
      have a65 : nI (68 * k) + (65 : Int32) = nI (68 * k + 65) := nI_add _ 65
      have a66 : nI (68 * k) + (66 : Int32) = nI (68 * k + 66) := nI_add _ 66
      have a67 : nI (68 * k) + (67 : Int32) = nI (68 * k + 67) := nI_add _ 67
      rw [if_pos (ile (Nat.le_refl _) (by omega)), a63, a64, a65, a66, a67, inB_t (show 68 * k + 63 < 136 by omega) (by omega), ck_t, inB_t (show 68 * k + 64 < 136 by omega) (by omega), ck_t, inB_t (show 68 * k + 65 < 136 by omega) (by omega), ck_t, inB_t (show 68 * k + 66 < 136 by omega) (by omega), ck_t, inB_t (show 68 * k + 67 < 136 by omega) (by omega), ck_t, ix_nI (show 68 * k + 63 < 2 ^ 31 by omega), ix_nI (show 68 * k + 64 < 2 ^ 31 by omega), ix_nI (show 68 * k + 65 < 2 ^ 31 by omega), ix_nI (show 68 * k + 66 < 2 ^ 31 by omega), ix_nI (show 68 * k + 67 < 2 ^ 31 by omega)]
    · have a51 : nI (68 * k) + (51 : Int32) = nI (68 * k + 51) := nI_add _ 51
      rw [if_neg (inle (by omega) (by omega)), a51, nI_add, nI_p1, inB_t (show 68 * k + 51 + i < 136 by omega) (by omega), ck_t, inB_t (show i < 12 by omega) (by omega), ck_t, ix_nI (show i < 2 ^ 31 by omega), ix_nI (show 68 * k + 51 + i < 2 ^ 31 by omega)]
      rw [show im (68 * k + 51 + i) = (fun j => im (68 * k + 51 + j)) i from rfl, fa_fill_succ]
      exact ih (i + 1) (by omega) (by omega)
theorem s_restore_59 {k : Nat} (hk : k < 2) (im : Nat → Int32) (P B C A S : Int32) (pg wt sg : Nat → Int32) : ∀ (n i : Nat), i ≤ 11 → 11 - i < n →
    f_X6_restore_59 im n (nI (68 * k)) (nI i) P B C A S pg (fa_fill (fun j => im (68 * k + 40 + j)) wt i) sg = some (1, im (68 * k + 63), im (68 * k + 64), im (68 * k + 65), im (68 * k + 66), im (68 * k + 67), pg, fa_fill (fun j => im (68 * k + 40 + j)) wt 11, fa_fill (fun j => im (68 * k + 51 + j)) sg 12) := by
  intro n
  induction n with
  | zero => intro i h1 h2; omega
  | succ n ih =>
    intro i h1 h2
    rw [f_X6_restore_59, q_11]
    by_cases e : i = 11
    · subst e
      rw [if_pos (ile (Nat.le_refl _) (by omega))]
      have := s_restore_90 hk im P B C A S pg (fa_fill (fun j => im (68 * k + 40 + j)) wt 11) sg FU 0 (by omega) (FU_ge (by omega))
      rw [fa_fill_0] at this
      exact this
    · have a40 : nI (68 * k) + (40 : Int32) = nI (68 * k + 40) := nI_add _ 40
      rw [if_neg (inle (by omega) (by omega)), a40, nI_add, nI_p1, inB_t (show 68 * k + 40 + i < 136 by omega) (by omega), ck_t, inB_t (show i < 11 by omega) (by omega), ck_t, ix_nI (show i < 2 ^ 31 by omega), ix_nI (show 68 * k + 40 + i < 2 ^ 31 by omega)]
      rw [show im (68 * k + 40 + i) = (fun j => im (68 * k + 40 + j)) i from rfl, fa_fill_succ]
      exact ih (i + 1) (by omega) (by omega)
theorem s_restore_31 {k : Nat} (hk : k < 2) (im : Nat → Int32) (P B C A S : Int32) (pg wt sg : Nat → Int32) : ∀ (n i : Nat), i ≤ 40 → 40 - i < n →
    f_X6_restore_31 im n (nI (68 * k)) (nI i) P B C A S (fa_fill (fun j => im (68 * k + j)) pg i) wt sg = some (1, im (68 * k + 63), im (68 * k + 64), im (68 * k + 65), im (68 * k + 66), im (68 * k + 67), fa_fill (fun j => im (68 * k + j)) pg 40, fa_fill (fun j => im (68 * k + 40 + j)) wt 11, fa_fill (fun j => im (68 * k + 51 + j)) sg 12) := by
  intro n
  induction n with
  | zero => intro i h1 h2; omega
  | succ n ih =>
    intro i h1 h2
    rw [f_X6_restore_31, q_40]
    by_cases e : i = 40
    · subst e
      rw [if_pos (ile (Nat.le_refl _) (by omega))]
      have := s_restore_59 hk im P B C A S (fa_fill (fun j => im (68 * k + j)) pg 40) wt sg FU 0 (by omega) (FU_ge (by omega))
      rw [fa_fill_0] at this
      exact this
    · rw [if_neg (inle (by omega) (by omega)), nI_add, nI_p1, inB_t (show 68 * k + i < 136 by omega) (by omega), ck_t, inB_t (show i < 40 by omega) (by omega), ck_t, ix_nI (show i < 2 ^ 31 by omega), ix_nI (show 68 * k + i < 2 ^ 31 by omega)]
      rw [show im (68 * k + i) = (fun j => im (68 * k + j)) i from rfl, fa_fill_succ]
      exact ih (i + 1) (by omega) (by omega)
theorem fill_same {f g h : Nat → Int32} {n : Nat} (e : ∀ i, i < n → f i = g i) : fa_fill f h n = fa_fill g h n := by
  funext q
  unfold fa_fill
  by_cases z : q < n
  · rw [if_pos z, if_pos z, e q z]
  · rw [if_neg z, if_neg z]
theorem s_restore {k : Nat} (hk : k < 2) {im : Nat → Int32} {P' B' C' A' S' : Int32} {tx' wt' sf' so' : Nat → Int32} (h : IM k im P' B' C' A' S' tx' wt' sf' so') (P B C A S : Int32) {pg wt sg sf so : Nat → Int32} (hsi : SI sg sf so) :
    ∃ sg', f_X6_restore_31 im FU (nI (68 * k)) 0 P B C A S pg wt sg = some (1, P', B', C', A', S', fa_fill tx' pg 40, fa_fill wt' wt 11, sg') ∧ SI sg' (fa_fill sf' sf 6) (fa_fill so' so 6) := by
  obtain ⟨h1, h2, h3, h4, h5, h6, h7, h8⟩ := h
  have := s_restore_31 hk im P B C A S pg wt sg FU 0 (by omega) (FU_ge (by omega))
  rw [fa_fill_0, h4, h5, h6, h7, h8, fill_same (f := fun j => im (68 * k + j)) (g := tx') h1, fill_same (f := fun j => im (68 * k + 40 + j)) (g := wt') h2] at this
  refine ⟨_, this, fun i hi => ?_⟩
  rw [fa_fill_in (show 2 * i < 12 by omega), fa_fill_in (show 2 * i + 1 < 12 by omega), fa_fill_in hi, fa_fill_in hi]
  exact h3 i hi
section RST
variable {P B C A S P0 B0 C0 A0 S0 K0 P1 B1 C1 A1 S1 K1 : Int32} {tx wt sf so sight tx0 wt0 sf0 so0 tx1 wt1 sf1 so1 image kept : Nat → Int32}
theorem t_restore (ht : TI P B C A S tx wt sf so) (hsi : SI sight sf so) (h0 : II 0 image kept P0 B0 C0 A0 S0 K0 tx0 wt0 sf0 so0) (h1 : II 1 image kept P1 B1 C1 A1 S1 K1 tx1 wt1 sf1 so1) (x : Int32) :
    ∃ a P' B' C' A' S' tx' wt' sf' so' sight', f_X5_restore x P0 B0 C0 A0 S0 K0 P1 B1 C1 A1 S1 K1 P B C A S tx0 tx wt0 wt sf0 sf so0 so tx1 wt1 sf1 so1 = some (a, P', B', C', A', S', tx', wt', sf', so') ∧ f_X6_restore x P B C A S kept tx image wt sight = some (a, P', B', C', A', S', tx', wt', sight') ∧ TI P' B' C' A' S' tx' wt' sf' so' ∧ SI sight' sf' so' := by
  obtain ⟨tk, hsg⟩ := ht.sg
  obtain ⟨ik0, hg0⟩ := h0.1
  obtain ⟨ik1, hg1⟩ := h1.1
  have out : (x < 0 ∨ (¬ x < 0 ∧ ¬ x < 2)) → f_X6_restore x P B C A S kept tx image wt sight = some (-2, P, B, C, A, S, tx, wt, sight) := fun h => by
    rw [f_X6_restore, s_in, bd_s, ite10, if_neg (no01 h)]
  rcases two_cases x with h | h | rfl | rfl
  · rw [out (Or.inl h), f_X5_restore, if_pos h]
    exact ⟨_, _, _, _, _, _, _, _, _, _, _, rfl, rfl, ht, hsi⟩
  · rw [out (Or.inr h), f_X5_restore, if_neg h.1, if_neg h.2]
    exact ⟨_, _, _, _, _, _, _, _, _, _, _, rfl, rfl, ht, hsi⟩
  · rw [f_X6_restore, s_in, bd_s, ite10, if_pos (show (0 : Int32) ≤ nI 0 ∧ nI 0 ≤ 1 by decide), inB_t (by decide) (by decide), ck_t, ix_nI (by decide), f_X5_restore, if_neg (show ¬ nI 0 < 0 by decide), if_pos (show nI 0 < 2 by decide), if_pos (show nI 0 = 0 from rfl)]
    rcases h0.2 with ⟨a, b⟩ | ⟨a, b, c, d⟩
    · rw [if_pos a, if_pos b]
      exact ⟨_, _, _, _, _, _, _, _, _, _, _, rfl, rfl, ht, hsi⟩
    · obtain ⟨sg', k1, k2⟩ := s_restore (k := 0) (by decide) d P B C A S (pg := tx) (wt := wt) hsi
      have k1' : f_X6_restore_31 image FU ((68 : Int32) * nI 0) 0 P B C A S tx wt sight = _ := k1
      rw [if_neg (show ¬ K0 = 0 by rw [a]; decide), if_neg (show ¬ kept 0 = 0 by rw [b]; decide), if_pos (show nI 0 = 0 from rfl), s_copy hg0, bd_s, k1']
      exact ⟨_, _, _, _, _, _, _, _, _, _, _, rfl, rfl, TI_fill c hsg _ _ _, k2⟩
  · rw [f_X6_restore, s_in, bd_s, ite10, if_pos (show (0 : Int32) ≤ nI 1 ∧ nI 1 ≤ 1 by decide), inB_t (by decide) (by decide), ck_t, ix_nI (by decide), f_X5_restore, if_neg (show ¬ nI 1 < 0 by decide), if_pos (show nI 1 < 2 by decide), if_neg (show ¬ nI 1 = 0 by decide), if_pos (show nI 1 = 1 from rfl)]
    rcases h1.2 with ⟨a, b⟩ | ⟨a, b, c, d⟩
    · rw [if_pos a, if_pos b]
      exact ⟨_, _, _, _, _, _, _, _, _, _, _, rfl, rfl, ht, hsi⟩
    · obtain ⟨sg', k1, k2⟩ := s_restore (k := 1) (by decide) d P B C A S (pg := tx) (wt := wt) hsi
      have k1' : f_X6_restore_31 image FU ((68 : Int32) * nI 1) 0 P B C A S tx wt sight = _ := k1
      rw [if_neg (show ¬ K1 = 0 by rw [a]; decide), if_neg (show ¬ kept 1 = 0 by rw [b]; decide), if_neg (show ¬ nI 1 = 0 by decide), if_pos (show nI 1 = 1 from rfl), s_copy hg1, bd_s, k1']
      exact ⟨_, _, _, _, _, _, _, _, _, _, _, rfl, rfl, TI_fill c hsg _ _ _, k2⟩
end RST
