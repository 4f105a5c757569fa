/-! ===== write and soonest agree ===== -/
theorem pick_eq_none {a b : Option (Nat × (Nat → Nat))} : pick a b = none ↔ a = none ∧ b = none := by
  cases a with
  | none => exact ⟨fun h => ⟨rfl, h⟩, fun h => h.2⟩
  | some x => cases b with
    | none => exact ⟨fun h => (by cases h), fun h => (by cases h.1)⟩
    | some y =>
      constructor
      · intro h
        unfold pick at h
        dsimp only at h
        by_cases e : x.1 ≤ y.1
        · rw [if_pos e] at h; cases h
        · rw [if_neg e] at h; cases h
      · intro h; cases h.1
def okS (N : Nat) (S : SS) : Prop := (S.1 = 0 ↔ S.2 = none) ∧ S.1 ≤ N
theorem okS_ncb {f : Nat → SS} {N : Nat} : ∀ n, (∀ i, okS N (f i)) → okS (n * N) (ncb f n) := by
  intro n
  induction n with
  | zero => intro _; rw [ncb]; exact ⟨⟨fun _ => rfl, fun _ => rfl⟩, by unfold sz; omega⟩
  | succ n ih =>
    intro h
    have h1 := ih h
    have h2 := h n
    rw [ncb]
    unfold cmb okS
    dsimp only
    refine ⟨?_, by rw [Nat.succ_mul]; exact Nat.add_le_add h1.2 h2.2⟩
    rw [pick_eq_none, ← h1.1, ← h2.1]
    omega
theorem SM_okS {al : Nat → Bool} {hold : (Nat → Nat) → Bool} {rk : (Nat → Nat) → Nat} : ∀ (zs : List Nat) (c : Nat → Nat), okS (10 ^ zs.length) (SM al hold rk zs c) := by
  intro zs
  induction zs with
  | nil =>
    intro c
    rw [SM]
    unfold lf
    by_cases e : hold c = true
    · rw [if_pos e]; exact ⟨⟨fun h => (by cases h), fun h => (by cases h)⟩, Nat.le_refl _⟩
    · rw [if_neg e]; exact ⟨⟨fun _ => rfl, fun _ => rfl⟩, Nat.zero_le _⟩
  | cons o os ih =>
    intro c
    rw [SM, List.length_cons, Nat.pow_succ, Nat.mul_comm]
    refine okS_ncb 10 (fun i => ?_)
    by_cases e : al (i + 1) = true
    · rw [if_pos e]; exact ih _
    · rw [if_neg e]; exact ⟨⟨fun _ => rfl, fun _ => rfl⟩, Nat.zero_le _⟩
section W3
variable {P B C : Nat} {tx : Nat → Int32} {tk : Nat → Nat}
theorem s_writtenAt {c0 : Nat → Nat} {S : SS} {ways rank : Int32} {kept : Nat → Int32} (hP : P ≤ 40) (hlen : (zl c0 P).length = cnS tx 42 P) (hl4 : (zl c0 P).length ≤ 4) (hS : okS (10 ^ (zl c0 P).length) S) (hk : KS (zl c0 P) S ways rank kept) (u : Int32) : f_X5_writtenAt u (nI P) tx ways kept = some (ansW (zl c0 P) S u) := by
  have h10 := pow5 (show (zl c0 P).length ≤ 5 by omega)
  obtain ⟨rfl, hk2⟩ := hk
  have hw0 : nI S.1 = 0 ↔ S.2 = none := by rw [← hS.1]; exact ieq_iff (b := 0) (by have := hS.2; omega) (by omega)
  rw [f_X5_writtenAt, s_howMany _ _ hP, bd_s, ← hlen]
  unfold ansW
  rcases i32_cases u (n := (zl c0 P).length) (by omega) with h | h | ⟨j, hj, rfl⟩
  · have hn : ¬ ((0 : Int32) ≤ u ∧ u ≤ nI (zl c0 P).length - 1) := fun q => nle_of_lt h q.1
    rw [if_pos h]
    cases S.2 with
    | none => rfl
    | some x => dsimp only; rw [if_neg hn]
  · have h0 : ¬ u < 0 := fun q => by
      rw [fa_le, nI_toInt (by omega)] at h
      rw [fa_lt] at q
      have : (0 : Int32).toInt = 0 := rfl
      omega
    have hn : ¬ ((0 : Int32) ≤ u ∧ u ≤ nI (zl c0 P).length - 1) := fun q => by
      rcases Nat.eq_zero_or_pos (zl c0 P).length with e | e
      · rw [e] at q
        have h2 := q.2
        have h1 := q.1
        rw [fa_le] at h1 h2
        have z1 : (0 : Int32).toInt = 0 := rfl
        have z2 : (nI 0 - 1 : Int32).toInt = -1 := rfl
        omega
      · rw [nI_m1 e] at q
        have h2 := q.2
        rw [fa_le, nI_toInt (by omega)] at h h2
        omega
    rw [if_neg h0, if_pos h]
    cases S.2 with
    | none => rfl
    | some x => dsimp only; rw [if_neg hn]
  · have hin : (0 : Int32) ≤ nI j ∧ nI j ≤ nI (zl c0 P).length - 1 := by
      rw [nI_m1 (by omega)]
      exact ⟨nI_pos' (by omega), ile (by omega) (by omega)⟩
    rw [if_neg (nI_pos (by omega)), if_neg (inle hj (by omega)), if_neg (show ¬ (4 : Int32) ≤ nI j from inle (b := 4) (by omega) (by omega))]
    rcases hk2 with ⟨e1, _⟩ | ⟨r, x, e1, _, _, e2⟩
    · rw [if_pos (hw0.mpr e1), e1]
    · have hj2 : (zl c0 P)[j]? = some (zl c0 P)[j] := List.getElem?_eq_getElem hj
      rw [if_neg (fun q => by rw [hw0.mp q] at e1; cases e1), inB_t (by omega) (by omega), ck_t, ix_nI (by omega), e1]
      dsimp only
      rw [if_pos hin, e2 j _ hj2, List.getD_eq_getElem?_getD, hj2]
      rfl
end W3
