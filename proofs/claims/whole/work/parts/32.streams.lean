/-! ===== one page as numbers: counts c on the places below P ===== -/
def oo (c : Nat → Nat) (P : Nat) : Nat → Nat → Nat
  | 0, p => p
  | n + 1, p => if p + c p < P then oo c P n (p + c p) else p
/-- OUT of a place -/
def ou (c : Nat → Nat) (P p : Nat) : Nat := oo c P P p
def rc (c : Nat → Nat) (P : Nat) : Nat → Nat → Nat → Bool
  | 0, p, q => decide (p = q)
  | n + 1, p, q => if p = q then true else if p + c p < P then rc c P n (p + c p) q else false
/-- q stands in the STREAM of p -/
def rs (c : Nat → Nat) (P p q : Nat) : Bool := rc c P P p q
def okc (c : Nat → Nat) (P : Nat) : Prop := ∀ i, i < P → 1 ≤ c i ∧ c i ≤ 10
theorem oo_st {c : Nat → Nat} {P : Nat} (hc : okc c P) : ∀ (n m p : Nat), p < P → P - p ≤ n → P - p ≤ m → oo c P n p = oo c P m p := by
  intro n
  induction n with
  | zero => intro m p h1 h2; omega
  | succ n ih =>
    intro m p h1 h2 h3
    obtain ⟨k, rfl⟩ : ∃ k, m = k + 1 := ⟨m - 1, by omega⟩
    rw [oo, oo]
    by_cases h : p + c p < P
    · rw [if_pos h, if_pos h]
      have := (hc p h1).1
      exact ih k (p + c p) h (by omega) (by omega)
    · rw [if_neg h, if_neg h]
theorem ou_eq {c : Nat → Nat} {P p : Nat} (hc : okc c P) (hp : p < P) : ou c P p = if p + c p < P then ou c P (p + c p) else p := by
  unfold ou
  obtain ⟨k, hk⟩ : ∃ k, P = k + 1 := ⟨P - 1, by omega⟩
  have h1 : oo c P P p = oo c P (k + 1) p := by rw [← hk]
  rw [h1, oo]
  by_cases h : p + c p < P
  · rw [if_pos h, if_pos h]
    have := (hc p hp).1
    exact oo_st hc _ _ _ h (by omega) (by omega)
  · rw [if_neg h, if_neg h]
theorem down {P : Nat} {Q : Nat → Prop} (h : ∀ p, p < P → (∀ q, p < q → q < P → Q q) → Q p) : ∀ p, p < P → Q p := by
  have : ∀ k p, P - p ≤ k → p < P → Q p := by
    intro k
    induction k with
    | zero => intro p h1 h2; omega
    | succ k ih => intro p h1 h2; exact h p h2 (fun q a b => ih q (by omega) b)
  exact fun p hp => this (P - p) p (Nat.le_refl _) hp
theorem ou_in {c : Nat → Nat} {P : Nat} (hc : okc c P) : ∀ p, p < P → p ≤ ou c P p ∧ ou c P p < P := by
  apply down
  intro p hp ih
  rw [ou_eq hc hp]
  by_cases h : p + c p < P
  · rw [if_pos h]
    have h1 := (hc p hp).1
    have := ih (p + c p) (by omega) h
    omega
  · rw [if_neg h]; omega
theorem ou_last {c : Nat → Nat} {P : Nat} (hc : okc c P) : ∀ p, p < P → ¬ (ou c P p + c (ou c P p) < P) := by
  apply down
  intro p hp ih
  rw [ou_eq hc hp]
  by_cases h : p + c p < P
  · rw [if_pos h]
    have h1 := (hc p hp).1
    exact ih (p + c p) (by omega) h
  · rw [if_neg h]; exact h
theorem rc_st {c : Nat → Nat} {P : Nat} (hc : okc c P) (q : Nat) : ∀ (n m p : Nat), p < P → P - p ≤ n → P - p ≤ m → rc c P n p q = rc c P m p q := by
  intro n
  induction n with
  | zero => intro m p h1 h2; omega
  | succ n ih =>
    intro m p h1 h2 h3
    obtain ⟨k, rfl⟩ : ∃ k, m = k + 1 := ⟨m - 1, by omega⟩
    rw [rc, rc]
    by_cases e : p = q
    · rw [if_pos e, if_pos e]
    · rw [if_neg e, if_neg e]
      by_cases h : p + c p < P
      · rw [if_pos h, if_pos h]
        have := (hc p h1).1
        exact ih k (p + c p) h (by omega) (by omega)
      · rw [if_neg h, if_neg h]
theorem rs_eq {c : Nat → Nat} {P p : Nat} (hc : okc c P) (hp : p < P) (q : Nat) : rs c P p q = if p = q then true else if p + c p < P then rs c P (p + c p) q else false := by
  unfold rs
  obtain ⟨k, hk⟩ : ∃ k, P = k + 1 := ⟨P - 1, by omega⟩
  have h1 : rc c P P p q = rc c P (k + 1) p q := by rw [← hk]
  rw [h1, rc]
  by_cases e : p = q
  · rw [if_pos e, if_pos e]
  · rw [if_neg e, if_neg e]
    by_cases h : p + c p < P
    · rw [if_pos h, if_pos h]
      have := (hc p hp).1
      exact rc_st hc q _ _ _ h (by omega) (by omega)
    · rw [if_neg h, if_neg h]
theorem rs_self {c : Nat → Nat} {P p : Nat} (hc : okc c P) (hp : p < P) : rs c P p p = true := by rw [rs_eq hc hp, if_pos rfl]
theorem rs_ge {c : Nat → Nat} {P : Nat} (hc : okc c P) : ∀ p, p < P → ∀ q, rs c P p q = true → p ≤ q ∧ q < P := by
  apply down
  intro p hp ih q h
  rw [rs_eq hc hp] at h
  by_cases e : p = q
  · omega
  · rw [if_neg e] at h
    by_cases h2 : p + c p < P
    · rw [if_pos h2] at h
      have h1 := (hc p hp).1
      have := ih (p + c p) (by omega) h2 q h
      omega
    · rw [if_neg h2] at h; cases h
theorem rs_lt {c : Nat → Nat} {P p q : Nat} (hc : okc c P) (hp : p < P) (h : q < p) : rs c P p q = false := by
  cases e : rs c P p q with
  | false => rfl
  | true => have := rs_ge hc p hp q e; omega
theorem rs_ou {c : Nat → Nat} {P : Nat} (hc : okc c P) : ∀ p, p < P → ∀ q, rs c P p q = true → ou c P q = ou c P p := by
  apply down
  intro p hp ih q h
  rw [rs_eq hc hp] at h
  by_cases e : p = q
  · rw [e]
  · rw [if_neg e] at h
    by_cases h2 : p + c p < P
    · rw [if_pos h2] at h
      have h1 := (hc p hp).1
      rw [ih (p + c p) (by omega) h2 q h, ou_eq hc hp, if_pos h2]
    · rw [if_neg h2] at h; cases h
theorem rs_out {c : Nat → Nat} {P : Nat} (hc : okc c P) : ∀ p, p < P → rs c P p (ou c P p) = true := by
  apply down
  intro p hp ih
  rw [rs_eq hc hp]
  by_cases e : p = ou c P p
  · rw [if_pos e]
  · rw [if_neg e]
    have h1 := (hc p hp).1
    by_cases h2 : p + c p < P
    · rw [if_pos h2, ou_eq hc hp, if_pos h2]
      exact ih (p + c p) (by omega) h2
    · exfalso; apply e; rw [ou_eq hc hp, if_neg h2]
/-- of a stream's place that isn't the last, the next stands there too -/
theorem rs_next {c : Nat → Nat} {P : Nat} (hc : okc c P) : ∀ p, p < P → ∀ q, rs c P p q = true → q + c q < P → rs c P p (q + c q) = true := by
  apply down
  intro p hp ih q h h3
  have h1 := (hc p hp).1
  rw [rs_eq hc hp] at h
  by_cases e : p = q
  · subst e
    rw [rs_eq hc hp, if_neg (by omega), if_pos h3]
    exact rs_self hc h3
  · rw [if_neg e] at h
    by_cases h2 : p + c p < P
    · rw [if_pos h2] at h
      have hq := rs_ge hc (p + c p) h2 q h
      have h4 := (hc q hq.2).1
      rw [rs_eq hc hp, if_neg (by omega), if_pos h2]
      exact ih (p + c p) (by omega) h2 q h h3
    · rw [if_neg h2] at h; cases h
/-- between a place of a stream and the next there is none -/
theorem rs_gap {c : Nat → Nat} {P : Nat} (hc : okc c P) : ∀ p, p < P → ∀ q x, rs c P p q = true → rs c P p x = true → q < x → q + c q ≤ x := by
  apply down
  intro p hp ih q x hq hx hlt
  have h1 := (hc p hp).1
  rw [rs_eq hc hp] at hq hx
  by_cases e : p = q
  · subst e
    rw [if_neg (by omega)] at hx
    by_cases h2 : p + c p < P
    · rw [if_pos h2] at hx
      exact (rs_ge hc _ h2 x hx).1
    · rw [if_neg h2] at hx; cases hx
  · rw [if_neg e] at hq
    by_cases h2 : p + c p < P
    · rw [if_pos h2] at hq
      have := (rs_ge hc _ h2 q hq).1
      rw [if_neg (by omega), if_pos h2] at hx
      exact ih _ (by omega) h2 q x hq hx hlt
    · rw [if_neg h2] at hq; cases hq
/-- a place of a stream that isn't its beginning has one ahead of it -/
theorem rs_prev {c : Nat → Nat} {P : Nat} (hc : okc c P) : ∀ p, p < P → ∀ q, rs c P p q = true → p = q ∨ ∃ x, x < q ∧ rs c P p x = true ∧ x + c x = q := by
  apply down
  intro p hp ih q h
  have h1 := (hc p hp).1
  rw [rs_eq hc hp] at h
  by_cases e : p = q
  · exact Or.inl e
  · rw [if_neg e] at h
    by_cases h2 : p + c p < P
    · rw [if_pos h2] at h
      refine Or.inr ?_
      rcases ih _ (by omega) h2 q h with e2 | ⟨x, a, b, d⟩
      · exact ⟨p, by omega, rs_self hc hp, e2⟩
      · refine ⟨x, a, ?_, d⟩
        have := (rs_ge hc _ h2 x b).1
        rw [rs_eq hc hp, if_neg (by omega), if_pos h2]
        exact b
    · rw [if_neg h2] at h; cases h
/-! ===== the reference's walks ===== -/
def AR (f : Nat → Int32) (a : Nat → Nat) (n : Nat) : Prop := ∀ i, i < n → f i = nI (a i)
theorem s_outOf {c : Nat → Nat} {P : Nat} {ct : Nat → Int32} (hc : okc c P) (hP : P ≤ 40) (hr : AR ct c P) : ∀ (n p : Nat), p < P → P - p ≤ n → f_X6_outOf_2 (nI P) ct n (nI p) = some (nI (ou c P p)) := by
  intro n
  induction n with
  | zero => intro p h1 h2; omega
  | succ n ih =>
    intro p h1 h2
    have h3 := hc p h1
    rw [f_X6_outOf_2, inB_t (by omega) (by omega), ck_t, ix_nI (by omega), hr p h1, nI_add, ou_eq hc h1]
    by_cases h : p + c p < P
    · rw [if_neg (inle h (by omega)), if_pos h]
      exact ih _ h (by omega)
    · rw [if_pos (ile (by omega) (by omega)), if_neg h]
theorem s_outOf' {c : Nat → Nat} {P : Nat} {ct : Nat → Int32} (hc : okc c P) (hP : P ≤ 40) (hr : AR ct c P) {p : Nat} (hp : p < P) : f_X6_outOf (nI p) (nI P) ct = some (nI (ou c P p)) :=
  s_outOf hc hP hr FU p hp (Nat.le_of_lt (FU_ge (by omega)))
def b01 (b : Bool) : Int32 := if b = true then 1 else 0
theorem s_comesTo {c : Nat → Nat} {P : Nat} {ct : Nat → Int32} (hc : okc c P) (hP : P ≤ 40) (hr : AR ct c P) {q : Nat} (hq : q < P) : ∀ (n p : Nat), p < P → P - p ≤ n → f_X6_comesTo_2 (nI q) (nI P) ct n (nI p) = some (b01 (rs c P p q)) := by
  intro n
  induction n with
  | zero => intro p h1 h2; omega
  | succ n ih =>
    intro p h1 h2
    have h3 := hc p h1
    rw [f_X6_comesTo_2, rs_eq hc h1]
    by_cases h : q ≤ p
    · rw [if_pos (ile h (by omega))]
      by_cases e : p = q
      · rw [if_pos (by rw [e]), if_pos e]; rfl
      · rw [if_neg (ine e (by omega) (by omega)), if_neg e]
        by_cases h4 : p + c p < P
        · rw [if_pos h4, rs_lt hc h4 (by omega)]; rfl
        · rw [if_neg h4]; rfl
    · rw [if_neg (inle (by omega) (by omega)), inB_t (by omega) (by omega), ck_t, ix_nI (by omega), hr p h1, nI_add, if_neg (show ¬ p = q by omega)]
      by_cases h4 : p + c p < P
      · rw [if_neg (inle h4 (by omega)), if_pos h4]
        exact ih _ h4 (by omega)
      · rw [if_pos (ile (by omega) (by omega)), if_neg h4, if_neg (ine (by omega) (by omega) (by omega))]; rfl
theorem s_comesTo' {c : Nat → Nat} {P : Nat} {ct : Nat → Int32} (hc : okc c P) (hP : P ≤ 40) (hr : AR ct c P) {p q : Nat} (hp : p < P) (hq : q < P) : f_X6_comesTo (nI p) (nI q) (nI P) ct = some (b01 (rs c P p q)) :=
  s_comesTo hc hP hr hq FU p hp (Nat.le_of_lt (FU_ge (by omega)))
/-- the reference's MEET: NONE, or the first place of both streams -/
theorem s_meetOf {c : Nat → Nat} {P : Nat} {ct : Nat → Int32} (hc : okc c P) (hP : P ≤ 40) (hr : AR ct c P) : ∀ (n p q : Nat), p < P → q < P → (P - p) + (P - q) ≤ n →
    (f_X6_meetOf_5 (nI P) ct n (nI p) (nI q) = some (-6) ∧ ou c P p ≠ ou c P q) ∨ (∃ x, f_X6_meetOf_5 (nI P) ct n (nI p) (nI q) = some (nI x) ∧ x < P ∧ rs c P p x = true ∧ rs c P q x = true ∧ ∀ y, rs c P p y = true → rs c P q y = true → x ≤ y) := by
  intro n
  induction n with
  | zero => intro p q h1 h2; omega
  | succ n ih =>
    intro p q h1 h2 h3
    have h4 := hc p h1
    have h5 := hc q h2
    rw [f_X6_meetOf_5]
    by_cases e : p = q
    · subst e
      refine Or.inr ⟨p, by rw [if_pos rfl], h1, rs_self hc h1, rs_self hc h1, fun y hy _ => (rs_ge hc _ h1 y hy).1⟩
    · rw [if_neg (ine e (by omega) (by omega))]
      by_cases h : q ≤ p
      · rw [if_pos (ile h (by omega)), f_X6_meetOf_23, inB_t (by omega) (by omega), ck_t, ix_nI (by omega), hr q h2, nI_add]
        by_cases h6 : q + c q < P
        · rw [if_pos (ilt h6 (by omega)), if_pos (ile h (by omega))]
          have hq : ∀ y, q < y → rs c P q y = rs c P (q + c q) y := fun y hy => by rw [rs_eq hc h2, if_neg (by omega), if_pos h6]
          rcases ih p (q + c q) h1 h6 (by omega) with ⟨a, b⟩ | ⟨x, a, b, d, f, g⟩
          · refine Or.inl ⟨a, ?_⟩
            rw [ou_eq hc h2, if_pos h6]; exact b
          · refine Or.inr ⟨x, a, b, d, ?_, fun y hy hy2 => ?_⟩
            · have := (rs_ge hc _ h6 x f).1
              rw [hq x (by omega)]; exact f
            · have := (rs_ge hc _ h1 y hy).1
              exact g y hy (by rw [← hq y (by omega)]; exact hy2)
        · rw [if_neg (inlt (by omega) (by omega))]
          refine Or.inl ⟨rfl, fun e2 => ?_⟩
          have := ou_in hc p h1
          rw [ou_eq hc h2, if_neg h6] at e2
          omega
      · rw [if_neg (inle (by omega) (by omega)), f_X6_meetOf_23, inB_t (by omega) (by omega), ck_t, ix_nI (by omega), hr p h1, nI_add]
        by_cases h6 : p + c p < P
        · rw [if_pos (ilt h6 (by omega)), if_neg (inle (by omega) (by omega))]
          have hq : ∀ y, p < y → rs c P p y = rs c P (p + c p) y := fun y hy => by rw [rs_eq hc h1, if_neg (by omega), if_pos h6]
          rcases ih (p + c p) q h6 h2 (by omega) with ⟨a, b⟩ | ⟨x, a, b, d, f, g⟩
          · refine Or.inl ⟨a, ?_⟩
            rw [ou_eq hc h1, if_pos h6]; exact b
          · refine Or.inr ⟨x, a, b, ?_, f, fun y hy hy2 => ?_⟩
            · have := (rs_ge hc _ h6 x d).1
              rw [hq x (by omega)]; exact d
            · have := (rs_ge hc _ h2 y hy2).1
              exact g y (by rw [← hq y (by omega)]; exact hy) hy2
        · rw [if_neg (inlt (by omega) (by omega))]
          refine Or.inl ⟨rfl, fun e2 => ?_⟩
          have := ou_in hc q h2
          rw [ou_eq hc h1, if_neg h6] at e2
          omega
