/-! ===== where a stream stands when the places below p are done ===== -/
def cur (c : Nat → Nat) : Nat → Nat → Nat
  | 0, b => b
  | p + 1, b => if cur c p b = p then p + c p else cur c p b
section CUR
variable {c : Nat → Nat} {P B : Nat}
theorem cur_ge {b : Nat} : ∀ p, (∀ q, q < p → 1 ≤ c q) → p ≤ cur c p b := by
  intro p
  induction p with
  | zero => intro _; exact Nat.zero_le _
  | succ p ih =>
    intro h
    have h1 := ih (fun q hq => h q (by omega))
    have h2 := h p (by omega)
    rw [cur]
    by_cases e : cur c p b = p
    · rw [if_pos e]; omega
    · rw [if_neg e]; omega
theorem cur_cong {c' : Nat → Nat} {b : Nat} : ∀ p, (∀ q, q < p → c q = c' q) → cur c p b = cur c' p b := by
  intro p
  induction p with
  | zero => intro _; rfl
  | succ p ih =>
    intro h
    rw [cur, cur, ih (fun q hq => h q (by omega)), h p (by omega)]
/-- past p it stays till it is reached -/
theorem cur_stay {b x : Nat} {p : Nat} (h : cur c p b = x) : ∀ n, p + n ≤ x → cur c (p + n) b = x := by
  intro n
  induction n with
  | zero => intro _; exact h
  | succ n ih =>
    intro hn
    have := ih (by omega)
    rw [← Nat.add_assoc, cur, if_neg (by omega), this]
theorem cur_at {b q : Nat} (h : cur c q b = q) (h1 : 1 ≤ c q) : cur c (q + c q) b = q + c q := by
  have h2 : cur c (q + 1) b = q + c q := by rw [cur, if_pos h]
  have := cur_stay h2 (c q - 1) (by omega)
  rw [show q + 1 + (c q - 1) = q + c q by omega] at this
  exact this
theorem cur_self (hc : ∀ q, q < P → 1 ≤ c q) {b : Nat} : cur c b b = b := by
  have := cur_stay (c := c) (p := 0) (b := b) (x := b) rfl b (by omega)
  rw [Nat.zero_add] at this
  exact this
theorem cur_low {b q : Nat} (h : q < b) : cur c q b = b := by
  have := cur_stay (c := c) (p := 0) (b := b) (x := b) rfl q (by omega)
  rw [Nat.zero_add] at this
  exact this
/-- from a place on, a stream goes on as the place's own -/
theorem cur_from {b x : Nat} (h : cur c x b = x) : ∀ n, cur c (x + n) b = cur c (x + n) x := by
  intro n
  induction n with
  | zero =>
    rw [Nat.add_zero, h]
    have := cur_stay (c := c) (p := 0) (b := x) (x := x) rfl x (by omega)
    rw [Nat.zero_add] at this
    exact this.symm
  | succ n ih => rw [← Nat.add_assoc, cur, cur, ih]
/-- comes to a place: as the streams say it -/
theorem rs_cur (hc : okc c P) {q : Nat} (hq : q < P) : ∀ b, b < P → rs c P b q = decide (cur c q b = q) := by
  apply down
  intro b hb ih
  have h1 := hc b hb
  rw [rs_eq hc hb]
  by_cases e : b = q
  · subst e
    rw [if_pos rfl, cur_self (P := P) (fun q hq => (hc q hq).1), decide_eq_true rfl]
  · rw [if_neg e]
    by_cases hlt : q < b
    · rw [cur_low hlt, decide_eq_false (by omega)]
      by_cases e2 : b + c b < P
      · rw [if_pos e2, ih (b + c b) (by omega) e2, cur_low (by omega), decide_eq_false (by omega)]
      · rw [if_neg e2]
    · have hb0 : cur c b b = b := cur_self (P := P) (fun q hq => (hc q hq).1)
      have hstep : cur c (b + 1) b = b + c b := by rw [cur, if_pos hb0]
      by_cases e3 : q < b + c b
      · have hs := cur_stay hstep (q - (b + 1)) (by omega)
        rw [show b + 1 + (q - (b + 1)) = q by omega] at hs
        rw [hs, decide_eq_false (by omega)]
        by_cases e2 : b + c b < P
        · rw [if_pos e2, ih (b + c b) (by omega) e2, cur_low e3, decide_eq_false (by omega)]
        · rw [if_neg e2]
      · have hx := cur_from (cur_at hb0 h1.1) (q - (b + c b))
        rw [show b + c b + (q - (b + c b)) = q by omega] at hx
        rw [if_pos (by omega), ih (b + c b) (by omega) (by omega), hx]
/-- a stream is before the end, or it went out at a place -/
theorem cur_in {b : Nat} (hb : b < P) : ∀ p, cur c p b < P ∨ ∃ q, q < p ∧ cur c q b = q ∧ P ≤ q + c q := by
  intro p
  induction p with
  | zero => exact Or.inl hb
  | succ p ih =>
    rcases ih with h | ⟨q, h1, h2, h3⟩
    · rw [cur]
      by_cases e : cur c p b = p
      · rw [if_pos e]
        by_cases e2 : p + c p < P
        · exact Or.inl e2
        · exact Or.inr ⟨p, by omega, e, by omega⟩
      · rw [if_neg e]; exact Or.inl h
    · exact Or.inr ⟨q, by omega, h2, h3⟩
theorem cur_gone {b q : Nat} (h : cur c q b = q) (h2 : P ≤ q + c q) : ∀ p, q < p → p ≤ P → cur c p b = q + c q := by
  intro p hp hpP
  have h1 : cur c (q + 1) b = q + c q := by rw [cur, if_pos h]
  have := cur_stay h1 (p - (q + 1)) (by omega)
  rw [show q + 1 + (p - (q + 1)) = p by omega] at this
  exact this
/-! ===== the class's three sets ===== -/
def VS (c : Nat → Nat) (P B p V : Nat) : Prop := V < 2 ^ 40 ∧ ∀ q, p ≤ q → (V.testBit q = true ↔ q < P ∧ ∃ b, b < B ∧ cur c p b = q)
def OS (c : Nat → Nat) (P B p O : Nat) : Prop := O < 2 ^ 40 ∧ ∀ q, O.testBit q = true ↔ q < p ∧ P ≤ q + c q ∧ ∃ b, b < B ∧ cur c q b = q
def QS (c : Nat → Nat) (B p Q : Nat) : Prop := Q < 2 ^ 40 ∧ ∀ q, Q.testBit q = true ↔ q < p ∧ ∀ b, b < B → cur c q b = q
theorem lt_40 {V k : Nat} (hV : V < 2 ^ 40) (hk : k < 40) : V ||| 2 ^ k < 2 ^ 40 := Nat.or_lt_two_pow hV (Nat.pow_lt_pow_right (by decide) hk)
theorem VS_start (hP : P ≤ 40) (hB : B ≤ P) : VS c P B 0 (2 ^ B - 1) := by
  refine ⟨?_, fun q _ => ?_⟩
  · have h1 : (2 : Nat) ^ B ≤ 2 ^ 40 := Nat.pow_le_pow_right (by decide) (by omega)
    have h2 : 0 < (2 : Nat) ^ B := Nat.pow_pos (by decide)
    omega
  · rw [Nat.testBit_two_pow_sub_one, decide_eq_true_eq]
    constructor
    · intro h; exact ⟨by omega, q, h, rfl⟩
    · rintro ⟨_, b, hb, e⟩
      have : b = q := e
      omega
theorem OS_start : OS c P B 0 0 := ⟨by decide, fun q => by
  rw [Nat.zero_testBit]
  constructor
  · intro h; cases h
  · rintro ⟨h, _⟩; omega⟩
theorem QS_start : QS c B 0 0 := ⟨by decide, fun q => by
  rw [Nat.zero_testBit]
  constructor
  · intro h; cases h
  · rintro ⟨h, _⟩; omega⟩
/-- a place that none comes to -/
theorem VS_dead {p V : Nat} (h : VS c P B p V) (hd : V.testBit p = false) (hp : p < P) : VS c P B (p + 1) V := by
  refine ⟨h.1, fun q hq => ?_⟩
  rw [h.2 q (by omega)]
  have hn : ∀ b, b < B → cur c p b ≠ p := fun b hb e => by
    have := (h.2 p (Nat.le_refl _)).mpr ⟨hp, b, hb, e⟩
    rw [hd] at this; cases this
  have : ∀ b, b < B → cur c (p + 1) b = cur c p b := fun b hb => by rw [cur, if_neg (hn b hb)]
  constructor
  · rintro ⟨a, b, hb, e⟩; exact ⟨a, b, hb, by rw [this b hb]; exact e⟩
  · rintro ⟨a, b, hb, e⟩; exact ⟨a, b, hb, by rw [← this b hb]; exact e⟩
theorem VS_alive {p V : Nat} (h : VS c P B p V) (hd : V.testBit p = true) (hp : p < P) (hP : P ≤ 40) (hc1 : 1 ≤ c p) : VS c P B (p + 1) (if p + c p < P then V ||| 2 ^ (p + c p) else V) := by
  obtain ⟨_, b0, hb0, e0⟩ := (h.2 p (Nat.le_refl _)).mp hd
  have hbit : ∀ q, p + 1 ≤ q → ((∃ b, b < B ∧ cur c (p + 1) b = q) ↔ (∃ b, b < B ∧ cur c p b = q) ∨ q = p + c p) := by
    intro q hq
    constructor
    · rintro ⟨b, hb, e⟩
      rw [cur] at e
      by_cases z : cur c p b = p
      · rw [if_pos z] at e; exact Or.inr e.symm
      · rw [if_neg z] at e; exact Or.inl ⟨b, hb, e⟩
    · rintro (⟨b, hb, e⟩ | e)
      · exact ⟨b, hb, by rw [cur, if_neg (by omega)]; exact e⟩
      · exact ⟨b0, hb0, by rw [cur, if_pos e0]; exact e.symm⟩
  by_cases e : p + c p < P
  · rw [if_pos e]
    refine ⟨lt_40 h.1 (by omega), fun q hq => ?_⟩
    rw [fb_bit_set, Bool.or_eq_true, h.2 q (by omega), decide_eq_true_eq, hbit q hq]
    constructor
    · rintro (⟨a, b⟩ | a)
      · exact ⟨a, Or.inl b⟩
      · exact ⟨by omega, Or.inr a⟩
    · rintro ⟨a, b | b⟩
      · exact Or.inl ⟨a, b⟩
      · exact Or.inr b
  · rw [if_neg e]
    refine ⟨h.1, fun q hq => ?_⟩
    rw [h.2 q (by omega), hbit q hq]
    constructor
    · rintro ⟨a, b⟩; exact ⟨a, Or.inl b⟩
    · rintro ⟨a, b | b⟩
      · exact ⟨a, b⟩
      · omega
theorem OS_next {p V O : Nat} (h : OS c P B p O) (hV : VS c P B p V) (hp : p < P) (hP : P ≤ 40) : OS c P B (p + 1) (if V.testBit p = true ∧ P ≤ p + c p then O ||| 2 ^ p else O) := by
  have hv := hV.2 p (Nat.le_refl _)
  by_cases e : V.testBit p = true ∧ P ≤ p + c p
  · rw [if_pos e]
    refine ⟨lt_40 h.1 (by omega), fun q => ?_⟩
    rw [fb_bit_set, Bool.or_eq_true, h.2 q, decide_eq_true_eq]
    constructor
    · rintro (⟨a, b⟩ | a)
      · exact ⟨by omega, b⟩
      · subst a; exact ⟨by omega, e.2, (hv.mp e.1).2⟩
    · rintro ⟨a, b⟩
      by_cases eq : q = p
      · exact Or.inr eq
      · exact Or.inl ⟨by omega, b⟩
  · rw [if_neg e]
    refine ⟨h.1, fun q => ?_⟩
    rw [h.2 q]
    constructor
    · rintro ⟨a, b⟩; exact ⟨by omega, b⟩
    · rintro ⟨a, b⟩
      by_cases eq : q = p
      · subst eq; exact absurd ⟨hv.mpr ⟨hp, b.2⟩, b.1⟩ e
      · exact ⟨by omega, b⟩
/-- all stand at one place: none went out, and none other is come to -/
theorem all_at {p V O : Nat} (hc : ∀ q, q < p → 1 ≤ c q) (hO : OS c P B p O) (hV : VS c P B p V) (hp : p < P) (hB : B ≤ P) (hB1 : 1 ≤ B) : (O = 0 ∧ V / 2 ^ p = 1) ↔ ∀ b, b < B → cur c p b = p := by
  constructor
  · rintro ⟨h1, h2⟩ b hb
    rcases cur_in (c := c) (show b < P by omega) p with h | ⟨q, a1, a2, a3⟩
    · have hge := cur_ge (b := b) p hc
      have hbit := (hV.2 (cur c p b) hge).mpr ⟨h, b, hb, rfl⟩
      have h3 : (V / 2 ^ p).testBit (cur c p b - p) = true := by
        rw [Nat.testBit_div_two_pow, show cur c p b - p + p = cur c p b by omega]; exact hbit
      rw [h2, show (1 : Nat) = 2 ^ 0 from rfl, tb_pow, decide_eq_true_eq] at h3
      omega
    · have := (hO.2 q).mpr ⟨a1, a3, b, hb, a2⟩
      rw [h1, Nat.zero_testBit] at this; cases this
  · intro h
    constructor
    · apply Nat.eq_of_testBit_eq
      intro q
      rw [Nat.zero_testBit]
      cases hq : O.testBit q with
      | false => rfl
      | true =>
        obtain ⟨a1, a2, b, hb, a3⟩ := (hO.2 q).mp hq
        have := cur_gone a3 a2 p a1 (by omega)
        rw [h b hb] at this
        omega
    · apply Nat.eq_of_testBit_eq
      intro i
      rw [Nat.testBit_div_two_pow, show (1 : Nat) = 2 ^ 0 from rfl, tb_pow, Bool.eq_iff_iff, decide_eq_true_eq, hV.2 (i + p) (by omega)]
      constructor
      · rintro ⟨_, b, hb, e⟩
        rw [h b hb] at e; omega
      · intro e
        subst e
        exact ⟨by omega, 0, by omega, by rw [h 0 (by omega)]; omega⟩
theorem QS_next {p Q : Nat} (h : QS c B p Q) (hp : p < 40) (e : Bool) (he : e = true ↔ ∀ b, b < B → cur c p b = p) : QS c B (p + 1) (if e = true then Q ||| 2 ^ p else Q) := by
  by_cases hE : e = true
  · rw [if_pos hE]
    refine ⟨lt_40 h.1 hp, fun q => ?_⟩
    rw [fb_bit_set, Bool.or_eq_true, h.2 q, decide_eq_true_eq]
    constructor
    · rintro (⟨a, b⟩ | a)
      · exact ⟨by omega, b⟩
      · subst a; exact ⟨by omega, he.mp hE⟩
    · rintro ⟨a, b⟩
      by_cases eq : q = p
      · exact Or.inr eq
      · exact Or.inl ⟨by omega, b⟩
  · rw [if_neg hE]
    refine ⟨h.1, fun q => ?_⟩
    rw [h.2 q]
    constructor
    · rintro ⟨a, b⟩; exact ⟨by omega, b⟩
    · rintro ⟨a, b⟩
      by_cases eq : q = p
      · subst eq; exact absurd (he.mpr b) hE
      · exact ⟨by omega, b⟩
end CUR
