/-- digits to 256 -/
def dg : List Nat → Nat
  | [] => 0
  | b :: l => b + 256 * dg l
theorem dg_div {b : Nat} {l : List Nat} (h : b < 256) : dg (b :: l) / 256 = dg l := by
  rw [dg]
  generalize dg l = T
  omega
theorem dg_mod {b : Nat} {l : List Nat} (h : b ≤ 64) : dg (b :: l) % 128 = b := by
  rw [dg]
  generalize dg l = T
  omega
theorem dg_cons (b : Nat) (l : List Nat) : dg (b :: l) = b + 256 * dg l := rfl
theorem dg_add : ∀ (l k : List Nat), l.length = k.length → dg l + dg k = dg (List.zipWith (· + ·) l k)
  | [], [], _ => rfl
  | [], _ :: _, h => by cases h
  | _ :: _, [], h => by cases h
  | a :: l, b :: k, h => by
    have h2 : l.length = k.length := by simpa using h
    have ih := dg_add l k h2
    rw [List.zipWith_cons_cons, dg_cons, dg_cons, dg_cons, ← ih]
    generalize dg l = T
    generalize dg k = U
    omega
theorem dg_pad : ∀ (l : List Nat), dg (l ++ [0]) = dg l
  | [] => rfl
  | a :: l => by rw [List.cons_append, dg_cons, dg_cons, dg_pad l]
theorem dg_lt : ∀ (l : List Nat), (∀ x ∈ l, x < 256) → dg l < 256 ^ l.length
  | [], _ => by decide
  | a :: l, h => by
    have ih := dg_lt l (fun x hx => h x (List.mem_cons_of_mem _ hx))
    have ha := h a List.mem_cons_self
    rw [dg_cons, List.length_cons, Nat.pow_succ]
    generalize dg l = T at *
    generalize 256 ^ l.length = N at *
    omega
theorem pop_last {b0 b1 b2 b3 b4 b5 b6 b7 : Nat} (h0 : b0 ≤ 8) (h1 : b1 ≤ 8) (h2 : b2 ≤ 8) (h3 : b3 ≤ 8) (h4 : b4 ≤ 8) (h5 : b5 ≤ 8) (h6 : b6 ≤ 8) (h7 : b7 ≤ 8) :
    ∃ r s t : Nat, dg [b0, b1, b2, b3, b4, b5, b6, b7] + dg [b0, b1, b2, b3, b4, b5, b6, b7] / 256 = r ∧ r + r / 65536 = s ∧ s + s / 4294967296 = t ∧ r < 2 ^ 64 ∧ s < 2 ^ 64 ∧ t % 128 = b0 + b1 + b2 + b3 + b4 + b5 + b6 + b7 := by
  have pad8 : ∀ x1 x2 x3 x4 x5 x6 x7 : Nat, dg [x1, x2, x3, x4, x5, x6, x7] = dg [x1, x2, x3, x4, x5, x6, x7, 0] := fun x1 x2 x3 x4 x5 x6 x7 => (dg_pad [x1, x2, x3, x4, x5, x6, x7]).symm
  have pad6 : ∀ x1 x2 x3 x4 x5 x6 : Nat, dg [x1, x2, x3, x4, x5, x6] = dg [x1, x2, x3, x4, x5, x6, 0, 0] := fun x1 x2 x3 x4 x5 x6 => by
    rw [← pad8]; exact (dg_pad [x1, x2, x3, x4, x5, x6]).symm
  have pad4 : ∀ x1 x2 x3 x4 : Nat, dg [x1, x2, x3, x4] = dg [x1, x2, x3, x4, 0, 0, 0, 0] := fun x1 x2 x3 x4 => by
    rw [← pad6]; rw [show dg [x1, x2, x3, x4, 0, 0] = dg ([x1, x2, x3, x4, 0] ++ [0]) from rfl, dg_pad]; exact (dg_pad [x1, x2, x3, x4]).symm
  have add8 : ∀ x0 x1 x2 x3 x4 x5 x6 x7 y0 y1 y2 y3 y4 y5 y6 y7 : Nat, dg [x0, x1, x2, x3, x4, x5, x6, x7] + dg [y0, y1, y2, y3, y4, y5, y6, y7] = dg [x0 + y0, x1 + y1, x2 + y2, x3 + y3, x4 + y4, x5 + y5, x6 + y6, x7 + y7] := fun x0 x1 x2 x3 x4 x5 x6 x7 y0 y1 y2 y3 y4 y5 y6 y7 => dg_add _ _ rfl
  have lt8 : ∀ x0 x1 x2 x3 x4 x5 x6 x7 : Nat, x0 < 256 → x1 < 256 → x2 < 256 → x3 < 256 → x4 < 256 → x5 < 256 → x6 < 256 → x7 < 256 → dg [x0, x1, x2, x3, x4, x5, x6, x7] < 2 ^ 64 := fun x0 x1 x2 x3 x4 x5 x6 x7 g0 g1 g2 g3 g4 g5 g6 g7 => by
    have := dg_lt [x0, x1, x2, x3, x4, x5, x6, x7] (fun x hx => by
      simp only [List.mem_cons, List.not_mem_nil, or_false] at hx
      rcases hx with rfl | rfl | rfl | rfl | rfl | rfl | rfl | rfl <;> assumption)
    exact Nat.lt_of_lt_of_eq this (show (256 : Nat) ^ 8 = 2 ^ 64 by decide +kernel)
  refine ⟨_, _, _, by rw [dg_div (by omega), pad8, add8], rfl, rfl, lt8 _ _ _ _ _ _ _ _ (by omega) (by omega) (by omega) (by omega) (by omega) (by omega) (by omega) (by omega), ?_⟩
  have a2 : dg [b0 + b1, b1 + b2, b2 + b3, b3 + b4, b4 + b5, b5 + b6, b6 + b7, b7 + 0] / 65536 = dg [b2 + b3, b3 + b4, b4 + b5, b5 + b6, b6 + b7, b7 + 0, 0, 0] := by
    rw [show (65536 : Nat) = 256 * 256 from rfl, ← Nat.div_div_eq_div_mul, dg_div (by omega), dg_div (by omega), pad6]
  rw [a2, add8]
  refine ⟨lt8 _ _ _ _ _ _ _ _ (by omega) (by omega) (by omega) (by omega) (by omega) (by omega) (by omega) (by omega), ?_⟩
  have a3 : ∀ x0 x1 x2 x3 x4 x5 x6 x7 : Nat, x0 < 256 → x1 < 256 → x2 < 256 → x3 < 256 → dg [x0, x1, x2, x3, x4, x5, x6, x7] / 4294967296 = dg [x4, x5, x6, x7, 0, 0, 0, 0] := fun x0 x1 x2 x3 x4 x5 x6 x7 g0 g1 g2 g3 => by
    rw [show (4294967296 : Nat) = 256 * 256 * 256 * 256 from rfl, ← Nat.div_div_eq_div_mul, ← Nat.div_div_eq_div_mul, ← Nat.div_div_eq_div_mul, dg_div g0, dg_div g1, dg_div g2, dg_div g3, pad4]
  rw [a3 _ _ _ _ _ _ _ _ (by omega) (by omega) (by omega) (by omega), add8, dg_mod (by omega)]
  omega
