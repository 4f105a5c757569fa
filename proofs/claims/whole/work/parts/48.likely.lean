def inA (st p set q : Nat) : Prop := p ≤ q ∧ ((q < p + 10 ∧ set.testBit (q - p) = true) ∨ (p + 10 ≤ q ∧ st.testBit q = true))
theorem rst_bit {st p set j : Nat} (hs : set < 1024) : (rst st p set).testBit j = true ↔ (set.testBit (j + 1) = true ∨ (j = 9 ∧ st.testBit (p + 10) = true)) := by
  unfold rst bgn
  have hsu : (set / 2).testBit j = set.testBit (j + 1) := (Nat.testBit_succ set j).symm
  rw [Nat.testBit_or, Bool.or_eq_true, hsu]
  by_cases e : st.testBit (p + 10) = true
  · rw [if_pos e, show (512 : Nat) = 2 ^ 9 from rfl, tb_pow, decide_eq_true_eq]
    constructor
    · rintro (h | h)
      · exact Or.inl h
      · exact Or.inr ⟨h, e⟩
    · rintro (h | h)
      · exact Or.inl h
      · exact Or.inr h.1
  · rw [if_neg e, Nat.zero_testBit]
    constructor
    · rintro (h | h)
      · exact Or.inl h
      · cases h
    · rintro (h | h)
      · exact Or.inl h
      · exact absurd h.2 e
theorem big_bit {set j : Nat} (hs : set < 1024) (hj : 10 ≤ j) : set.testBit j = false := Nat.testBit_lt_two_pow (Nat.lt_of_lt_of_le hs (Nat.pow_le_pow_right (n := 2) (by decide) hj))
theorem inA_next {st p set q : Nat} (hs : set < 1024) : inA st (p + 1) (rst st p set) q ↔ inA st p set q ∧ q ≠ p := by
  unfold inA
  constructor
  · rintro ⟨h1, h2⟩
    refine ⟨⟨by omega, ?_⟩, by omega⟩
    rcases h2 with ⟨h3, h4⟩ | ⟨h3, h4⟩
    · rw [rst_bit hs] at h4
      rcases h4 with h4 | ⟨h4, h5⟩
      · rw [show q - (p + 1) + 1 = q - p by omega] at h4
        have : q - p < 10 := by
          rcases Nat.lt_or_ge (q - p) 10 with z | z
          · exact z
          · rw [big_bit hs z] at h4; cases h4
        exact Or.inl ⟨by omega, h4⟩
      · exact Or.inr ⟨by omega, by rw [show q = p + 10 by omega]; exact h5⟩
    · exact Or.inr ⟨by omega, h4⟩
  · rintro ⟨⟨h1, h2⟩, h3⟩
    refine ⟨by omega, ?_⟩
    rcases h2 with ⟨h4, h5⟩ | ⟨h4, h5⟩
    · exact Or.inl ⟨by omega, by rw [rst_bit hs]; exact Or.inl (by rw [show q - (p + 1) + 1 = q - p by omega]; exact h5)⟩
    · by_cases e : q = p + 10
      · exact Or.inl ⟨by omega, by rw [rst_bit hs]; exact Or.inr ⟨by omega, by rw [← e]; exact h5⟩⟩
      · exact Or.inr ⟨by omega, h5⟩
theorem inA_or {st p s d q : Nat} (hd : d < 10) : inA st p (s ||| 2 ^ d) q ↔ inA st p s q ∨ q = p + d := by
  unfold inA
  constructor
  · rintro ⟨h1, ⟨h2, h3⟩ | h2⟩
    · rw [fb_bit_set, Bool.or_eq_true, decide_eq_true_eq] at h3
      rcases h3 with h3 | h3
      · exact Or.inl ⟨h1, Or.inl ⟨h2, h3⟩⟩
      · exact Or.inr (by omega)
    · exact Or.inl ⟨h1, Or.inr h2⟩
  · rintro (⟨h1, ⟨h2, h3⟩ | h2⟩ | h)
    · exact ⟨h1, Or.inl ⟨h2, by rw [fb_bit_set, h3, Bool.true_or]⟩⟩
    · exact ⟨h1, Or.inr h2⟩
    · refine ⟨by omega, Or.inl ⟨by omega, ?_⟩⟩
      rw [fb_bit_set, decide_eq_true (show q - p = d by omega), Bool.or_true]
theorem okb_iff {c : Nat → Nat} {P st : Nat} (hc : okc c P) : ∀ (r set : Nat), r ≤ P → set < 1024 → (∃ q, inA st (P - r) set q) → (∀ q, inA st (P - r) set q → q < P) → (∀ q, P - r ≤ q → q < P - r + 10 → st.testBit q = true → set.testBit (q - (P - r)) = true) →
    (okb c P st r set = true ↔ ∀ x y, inA st (P - r) set x → inA st (P - r) set y → ou c P x = ou c P y) := by
  intro r
  induction r with
  | zero =>
    intro set _ _ h1 h2
    obtain ⟨q, hq⟩ := h1
    have := h2 q hq
    have := hq.1
    omega
  | succ r ih =>
    intro set hr hs hne hlt hcons
    have hpP : P - (r + 1) < P := by omega
    have hpr : P - r = P - (r + 1) + 1 := by omega
    rw [okb]
    rw [hpr] at ih
    generalize P - (r + 1) = p at *
    have hcp := hc p hpP
    have cons' : ∀ q, p + 1 ≤ q → q < p + 1 + 10 → st.testBit q = true → (rst st p set).testBit (q - (p + 1)) = true := by
      intro q h1 h2 h3
      rw [rst_bit hs]
      by_cases e : q = p + 10
      · exact Or.inr ⟨by omega, by rw [← e]; exact h3⟩
      · left
        have := hcons q (by omega) (by omega) h3
        rw [show q - (p + 1) + 1 = q - p by omega]; exact this
    by_cases e1 : set = 1 ∧ abg st p = true
    · rw [if_pos e1]
      have only : ∀ q, inA st p set q → q = p := by
        rintro q ⟨h1, ⟨h2, h3⟩ | ⟨h2, h3⟩⟩
        · rw [e1.1, show (1 : Nat) = 2 ^ 0 from rfl, tb_pow, decide_eq_true_eq] at h3; omega
        · exfalso
          have h0 : st / 2 ^ (p + 1) = 0 := of_decide_eq_true e1.2
          have h4 : (st / 2 ^ (p + 1)).testBit (q - (p + 1)) = true := by
            rw [Nat.testBit_div_two_pow, show q - (p + 1) + (p + 1) = q by omega]; exact h3
          rw [h0, Nat.zero_testBit] at h4; cases h4
      exact ⟨fun _ x y hx hy => by rw [only x hx, only y hy], fun _ => rfl⟩
    · rw [if_neg e1]
      by_cases e2 : set % 2 = 0
      · rw [if_pos e2]
        have hnp : ∀ q, inA st p set q → q ≠ p := by
          rintro q ⟨h1, ⟨h2, h3⟩ | ⟨h2, h3⟩⟩ e
          · subst e; rw [Nat.sub_self, Nat.testBit_zero, e2] at h3; cases h3
          · omega
        have heq : ∀ q, inA st (p + 1) (rst st p set) q ↔ inA st p set q := fun q => by
          rw [inA_next hs]; exact ⟨fun h => h.1, fun h => ⟨h, hnp q h⟩⟩
        obtain ⟨q0, hq0⟩ := hne
        rw [ih _ (by omega) (rst_lt hs) ⟨q0, (heq q0).mpr hq0⟩ (fun q hq => hlt q ((heq q).mp hq)) cons']
        constructor
        · intro h x y hx hy; exact h x y ((heq x).mpr hx) ((heq y).mpr hy)
        · intro h x y hx hy; exact h x y ((heq x).mp hx) ((heq y).mp hy)
      · rw [if_neg e2]
        have hpA : inA st p set p := ⟨Nat.le_refl _, Or.inl ⟨by omega, by rw [Nat.sub_self, Nat.testBit_zero]; exact decide_eq_true (by omega)⟩⟩
        have hother : ∃ y, inA st p set y ∧ y ≠ p := by
          refine Classical.byContradiction (fun hno => e1 ?_)
          have hall : ∀ y, inA st p set y → y = p := fun y hy => Classical.byContradiction (fun h => hno ⟨y, hy, h⟩)
          have hset : set = 1 := by
            apply Nat.eq_of_testBit_eq
            intro i
            rw [show (1 : Nat) = 2 ^ 0 from rfl, tb_pow]
            by_cases ei : i = 0
            · subst ei; rw [decide_eq_true rfl, Nat.testBit_zero]; exact decide_eq_true (by omega)
            · rw [decide_eq_false ei]
              cases hb : set.testBit i with
              | false => rfl
              | true =>
                have hi : i < 10 := by
                  rcases Nat.lt_or_ge i 10 with z | z
                  · exact z
                  · rw [big_bit hs z] at hb; cases hb
                have := hall (p + i) ⟨by omega, Or.inl ⟨by omega, by rw [Nat.add_sub_cancel_left]; exact hb⟩⟩
                omega
          refine ⟨hset, decide_eq_true ?_⟩
          apply Nat.eq_of_testBit_eq
          intro i
          rw [Nat.testBit_div_two_pow, Nat.zero_testBit, Nat.add_comm i]
          cases hb : st.testBit (p + 1 + i) with
          | false => rfl
          | true =>
            by_cases ei : p + 1 + i < p + 10
            · have h5 := hcons (p + 1 + i) (by omega) ei hb
              have := hall (p + 1 + i) ⟨by omega, Or.inl ⟨ei, h5⟩⟩
              omega
            · have := hall (p + 1 + i) ⟨by omega, Or.inr ⟨by omega, hb⟩⟩
              omega
        obtain ⟨y0, hy0, hy0p⟩ := hother
        have hy0P := hlt y0 hy0
        have hy0g := hy0.1
        by_cases e3 : p + c p < P
        · rw [if_pos e3]
          have hd : c p - 1 < 10 := by omega
          have heq : ∀ q, inA st (p + 1) (rst st p set ||| 2 ^ (c p - 1)) q ↔ (inA st p set q ∧ q ≠ p) ∨ q = p + c p := fun q => by
            rw [inA_or hd, inA_next hs, show p + 1 + (c p - 1) = p + c p by omega]
          have h2k : 2 ^ (c p - 1) < 1024 := Nat.lt_of_le_of_lt (Nat.pow_le_pow_right (by decide) (show c p - 1 ≤ 9 by omega)) (by decide)
          rw [ih _ (by omega) (or_1024 (rst_lt hs) h2k) ⟨y0, (heq y0).mpr (Or.inl ⟨hy0, hy0p⟩)⟩ (fun q hq => by
            rcases (heq q).mp hq with h | h
            · exact hlt q h.1
            · omega) (fun q h1 h2 h3 => by rw [fb_bit_set, cons' q h1 h2 h3, Bool.true_or])]
          have hout : ou c P p = ou c P (p + c p) := by rw [ou_eq hc hpP, if_pos e3]
          have mv : ∀ x, inA st p set x → ∃ x', inA st (p + 1) (rst st p set ||| 2 ^ (c p - 1)) x' ∧ ou c P x = ou c P x' := fun x hx => by
            by_cases ex : x = p
            · exact ⟨p + c p, (heq _).mpr (Or.inr rfl), by rw [ex, hout]⟩
            · exact ⟨x, (heq _).mpr (Or.inl ⟨hx, ex⟩), rfl⟩
          have bk : ∀ x, inA st (p + 1) (rst st p set ||| 2 ^ (c p - 1)) x → ∃ x', inA st p set x' ∧ ou c P x = ou c P x' := fun x hx => by
            rcases (heq x).mp hx with h | h
            · exact ⟨x, h.1, rfl⟩
            · exact ⟨p, hpA, by rw [h, hout]⟩
          constructor
          · intro h x y hx hy
            obtain ⟨x', a1, a2⟩ := mv x hx
            obtain ⟨y', b1, b2⟩ := mv y hy
            rw [a2, b2]; exact h x' y' a1 b1
          · intro h x y hx hy
            obtain ⟨x', a1, a2⟩ := bk x hx
            obtain ⟨y', b1, b2⟩ := bk y hy
            rw [a2, b2]; exact h x' y' a1 b1
        · rw [if_neg e3]
          constructor
          · intro h; cases h
          · intro h
            exfalso
            have h1 := h p y0 hpA hy0
            rw [ou_eq hc hpP, if_neg e3] at h1
            have := (ou_in hc y0 hy0P).1
            omega
theorem okb_start {c : Nat → Nat} {P st : Nat} (hc : okc c P) (hne : ∃ q, st.testBit q = true) (hlt : ∀ q, st.testBit q = true → q < P) : okb c P st P (st % 1024) = true ↔ ∀ x y, st.testBit x = true → st.testBit y = true → ou c P x = ou c P y := by
  have heq : ∀ q, inA st (P - P) (st % 1024) q ↔ st.testBit q = true := fun q => by
    rw [Nat.sub_self]
    unfold inA
    rw [show (1024 : Nat) = 2 ^ 10 from rfl, Nat.testBit_mod_two_pow, Nat.sub_zero]
    constructor
    · rintro ⟨_, ⟨h1, h2⟩ | ⟨h1, h2⟩⟩
      · rw [Bool.and_eq_true] at h2; exact h2.2
      · exact h2
    · intro h
      refine ⟨Nat.zero_le _, ?_⟩
      by_cases e : q < 10
      · exact Or.inl ⟨by omega, by rw [decide_eq_true e, h]; rfl⟩
      · exact Or.inr ⟨by omega, h⟩
  obtain ⟨q0, hq0⟩ := hne
  rw [okb_iff hc P _ (Nat.le_refl _) (Nat.mod_lt _ (by decide)) ⟨q0, (heq q0).mpr hq0⟩ (fun q hq => hlt q ((heq q).mp hq)) (fun q h1 h2 h3 => by
    rw [show (1024 : Nat) = 2 ^ 10 from rfl, Nat.testBit_mod_two_pow, Nat.sub_self, Nat.sub_zero, h3, decide_eq_true (by omega)]; rfl)]
  constructor
  · intro h x y hx hy; exact h x y ((heq x).mpr hx) ((heq y).mpr hy)
  · intro h x y hx hy; exact h x y ((heq x).mp hx) ((heq y).mp hy)
/-! ===== weights ===== -/
def WG (wt : Nat → Int32) (w : Nat → Nat) : Prop := (∀ d, 1 ≤ d → d ≤ 10 → wt d = nI (w d) ∧ w d ≤ 9) ∧ 1 ≤ SW w ∧ SW w ≤ 12
theorem s5_weightOfAll_4 {wt : Nat → Int32} {w : Nat → Nat} (hw : ∀ d, 1 ≤ d → d ≤ 10 → wt d = nI (w d) ∧ w d ≤ 9) : ∀ (n i : Nat), i ≤ 10 → 10 - i < n → f_X3_weightOfAll_4 wt n (nI (fb_sm (fun d => w (d + 1)) i)) (nI (i + 1)) = some (nI (SW w)) := by
  intro n
  induction n with
  | zero => intro i h1 h2; omega
  | succ n ih =>
    intro i h1 h2
    rw [f_X3_weightOfAll_4, q_10]
    by_cases e : i = 10
    · subst e; rw [if_pos (ilt (by omega) (by omega))]; rfl
    · have := hw (i + 1) (by omega) (by omega)
      rw [if_neg (inlt (by omega) (by omega)), inB_t (by omega) (by omega), ck_t, ix_nI (by omega), this.1, nI_add, nI_p1]
      exact ih (i + 1) (by omega) (by omega)
theorem s5_weightOfAll {wt : Nat → Int32} {w : Nat → Nat} (hw : ∀ d, 1 ≤ d → d ≤ 10 → wt d = nI (w d) ∧ w d ≤ 9) : f_X3_weightOfAll wt = some (nI (SW w)) := s5_weightOfAll_4 hw FU 0 (by omega) (FU_ge (by omega))
theorem s6_allWeights_4 {wt : Nat → Int32} {w : Nat → Nat} (hw : ∀ d, 1 ≤ d → d ≤ 10 → wt d = nI (w d) ∧ w d ≤ 9) : ∀ (n i : Nat), i ≤ 10 → 10 - i < n → f_X6_allWeights_4 wt n (nI (fb_sm (fun d => w (d + 1)) i)) (nI (i + 1)) = some (nI (SW w)) := by
  intro n
  induction n with
  | zero => intro i h1 h2; omega
  | succ n ih =>
    intro i h1 h2
    rw [f_X6_allWeights_4, q_10]
    by_cases e : i = 10
    · subst e; rw [if_pos (ilt (by omega) (by omega))]; rfl
    · have := hw (i + 1) (by omega) (by omega)
      rw [if_neg (inlt (by omega) (by omega)), inB_t (by omega) (by omega), ck_t, ix_nI (by omega), this.1, nI_add, nI_p1]
      exact ih (i + 1) (by omega) (by omega)
theorem s6_allWeights {wt : Nat → Int32} {w : Nat → Nat} (hw : ∀ d, 1 ≤ d → d ≤ 10 → wt d = nI (w d) ∧ w d ≤ 9) : f_X6_allWeights wt = some (nI (SW w)) := s6_allWeights_4 hw FU 0 (by omega) (FU_ge (by omega))
theorem s_wholeWeight_4 {wt : Nat → Int32} {w : Nat → Nat} (hw : WG wt w) {k : Nat} (hk : k ≤ 5) : ∀ (n i : Nat), i ≤ k → k - i < n → f_X6_wholeWeight_4 (nI k) wt n (lN (SW w ^ i)) (nI i) = some (lN (SW w ^ k)) := by
  intro n
  induction n with
  | zero => intro i h1 h2; omega
  | succ n ih =>
    intro i h1 h2
    have h12 := hw.2.2
    rw [f_X6_wholeWeight_4]
    by_cases e : i = k
    · subst e; rw [if_pos (ile (Nat.le_refl _) (by omega))]
    · rw [if_neg (inle (by omega) (by omega)), s6_allWeights hw.1, bd_s, nI_l (by omega), lN_mul, nI_p1, ← Nat.pow_succ]
      exact ih (i + 1) (by omega) (by omega)
theorem s_wholeWeight {wt : Nat → Int32} {w : Nat → Nat} (hw : WG wt w) {k : Nat} (hk : k ≤ 5) : f_X6_wholeWeight (nI k) wt = some (lN (SW w ^ k)) := s_wholeWeight_4 hw hk FU 0 (Nat.zero_le _) (FU_ge (by omega))
theorem Wb_pow (c : Nat → Nat) (W : Nat) : ∀ p, Wb c W p = W ^ (zl c p).length
  | 0 => rfl
  | p + 1 => by
    rw [Wb, Wb_pow c W p, zl_succ, List.length_append]
    unfold fac
    by_cases e : c p = 0
    · rw [if_pos e, if_pos e, List.length_singleton, Nat.pow_succ]
    · rw [if_neg e, if_neg e, List.length_nil, Nat.add_zero, Nat.mul_one]
theorem Wt_pow (c : Nat → Nat) (W P : Nat) : ∀ r, Wt c W P r = W ^ (zf c P r).length
  | 0 => rfl
  | r + 1 => by
    rw [Wt, Wt_pow c W P r, zf]
    unfold fac
    by_cases e : c (P - (r + 1)) = 0
    · rw [if_pos e, if_pos e, List.length_cons, Nat.pow_succ, Nat.mul_comm]
    · rw [if_neg e, if_neg e, Nat.one_mul]
theorem nsw_le {w : Nat → Nat} {φ : (Nat → Nat) → Bool} : ∀ (zs : List Nat) (c : Nat → Nat), nsw φ w zs c ≤ SW w ^ zs.length := by
  intro zs
  induction zs with
  | nil => intro c; rw [nsw]; split <;> simp
  | cons o os ih =>
    intro c
    rw [nsw, List.length_cons, Nat.pow_succ, Nat.mul_comm]
    have h : fb_sm (fun d => w (d + 1) * nsw φ w os (chg c o (d + 1))) 10 ≤ fb_sm (fun d => w (d + 1) * SW w ^ os.length) 10 := fb_sm_le (fun d _ => Nat.mul_le_mul_left _ (ih _))
    rw [sm_mulr] at h
    exact h
theorem zl_nd (c : Nat → Nat) (P : Nat) : (zl c P).Nodup := List.Pairwise.filter _ List.nodup_range
theorem zl_mem {c : Nat → Nat} {P o : Nat} : o ∈ zl c P ↔ o < P ∧ c o = 0 := by
  unfold zl
  rw [List.mem_filter, List.mem_range, decide_eq_true_eq]
theorem opf_at {c : Nat → Nat} {P : Nat} {o0 : Nat → Int32} (i o : Nat) (h : (zl c P)[i]? = some o) : opf c o0 P i = nI o := by
  unfold opf
  have hi : i < (zl c P).length := (List.getElem?_eq_some_iff.mp h).1
  rw [if_pos hi, List.getD_eq_getElem?_getD, h]; rfl
theorem pow5 {k : Nat} (hk : k ≤ 5) : 10 ^ k ≤ 100000 := Nat.le_trans (Nat.pow_le_pow_right (by decide) hk) (by decide)
theorem prd_le {w : Nat → Nat} (hw : ∀ d, 1 ≤ d → d ≤ 10 → w d ≤ 9) : ∀ (l : List Nat), (∀ d ∈ l, 1 ≤ d ∧ d ≤ 10) → prd w l ≤ 9 ^ l.length
  | [], _ => by rw [prd]; decide
  | d :: l, h => by
    have h1 := h d List.mem_cons_self
    have ih := prd_le hw l (fun x hx => h x (List.mem_cons_of_mem _ hx))
    rw [prd, List.length_cons, Nat.pow_succ, Nat.mul_comm (9 ^ l.length)]
    exact Nat.mul_le_mul (hw d h1.1 h1.2) ih
theorem prd_dgt_le {w : Nat → Nat} (hw : ∀ d, 1 ≤ d → d ≤ 10 → w d ≤ 9) {k : Nat} (hk : k ≤ 5) (code : Nat) : prd w (dgt k code) ≤ 59049 := by
  have := prd_le hw (dgt k code) (dgt_in k code)
  rw [dgt_len] at this
  exact Nat.le_trans this (Nat.le_trans (Nat.pow_le_pow_right (by decide) hk) (by decide))
theorem asg_okc {c : Nat → Nat} {P : Nat} : ∀ (zs ds : List Nat) (c : Nat → Nat), zs.length = ds.length → (∀ q, q < P → q ∉ zs → 1 ≤ c q ∧ c q ≤ 10) → (∀ d ∈ ds, 1 ≤ d ∧ d ≤ 10) → okc (asg c zs ds) P
  | [], [], c, _, h, _ => by
    rw [asg]
    · exact fun q hq => h q hq (by simp)
    · intro o os d ds h; cases h
  | [], _ :: _, _, h, _, _ => by cases h
  | _ :: _, [], _, h, _, _ => by cases h
  | o :: os, d :: ds, c, hl, h, hd => by
    rw [asg]
    refine asg_okc (c := c) os ds _ (by simpa using hl) (fun q hq hn => ?_) (fun x hx => hd x (List.mem_cons_of_mem _ hx))
    unfold chg
    by_cases e : q = o
    · rw [if_pos e]; exact hd d List.mem_cons_self
    · rw [if_neg e]
      exact h q hq (fun hm => by
        rcases List.mem_cons.mp hm with z | z
        · exact e z
        · exact hn z)
