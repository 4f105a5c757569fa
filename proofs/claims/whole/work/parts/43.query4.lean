/-! ===== best: the most that come out at one place ===== -/
def mxs (g : Nat → Nat) : Nat → Nat
  | 0 => 0
  | n + 1 => max (mxs g n) (g n)
theorem mxs_le {g : Nat → Nat} {m : Nat} : ∀ {n : Nat}, mxs g n ≤ m ↔ ∀ i, i < n → g i ≤ m
  | 0 => ⟨fun _ i h => by omega, fun _ => Nat.zero_le _⟩
  | n + 1 => by
    have ih := mxs_le (g := g) (m := m) (n := n)
    rw [mxs, Nat.max_le, ih]
    constructor
    · rintro ⟨a, b⟩ i hi
      by_cases e : i = n
      · rw [e]; exact b
      · exact a i (by omega)
    · intro h; exact ⟨fun i hi => h i (by omega), h n (by omega)⟩
theorem mxs_ge {g : Nat → Nat} {n i : Nat} (h : i < n) : g i ≤ mxs g n := mxs_le.mp (Nat.le_refl _) i h
/-- how many beginnings come out at a place -/
def atE (c : Nat → Nat) (P B q : Nat) : Nat := fb_ct (fun b => decide (ou c P b = q)) B
theorem cmr_end {c : Nat → Nat} {P B q : Nat} (hc : okc c P) (hB : B ≤ P) (hq : ou c P q = q) (hqP : q < P) : cmr c P B q = atE c P B q := by
  unfold cmr atE
  apply fb_ct_cong
  intro b hb
  cases h : rs c P b q with
  | true => rw [decide_eq_true]; rw [← rs_ou hc b (by omega) q h, hq]
  | false =>
    rw [decide_eq_false]
    intro e
    have := rs_out hc b (by omega)
    rw [e, h] at this; cases this
theorem mx_eq {c : Nat → Nat} {P B : Nat} (hc : okc c P) (hB : B ≤ P) : mxs (fun q => if ou c P q = q then cmr c P B q else 0) P = mxs (fun b => atE c P B (ou c P b)) B := by
  apply Nat.le_antisymm
  · rw [mxs_le]
    intro q hq
    try dsimp only
    by_cases e : ou c P q = q
    · rw [if_pos e, cmr_end hc hB e hq]
      rcases Nat.eq_zero_or_pos (atE c P B q) with h | h
      · rw [h]; exact Nat.zero_le _
      · obtain ⟨b, hb, h2⟩ := fb_ct_pos.mp h
        have := mxs_ge (g := fun b => atE c P B (ou c P b)) hb
        try dsimp only at this
        rw [of_decide_eq_true h2] at this; exact this
    · rw [if_neg e]; exact Nat.zero_le _
  · rw [mxs_le]
    intro b hb
    try dsimp only
    have h1 := ou_in hc b (by omega)
    have h2 : ou c P (ou c P b) = ou c P b := by
      have := ou_last hc b (by omega)
      rw [ou_eq hc h1.2, if_neg this]
    have := mxs_ge (g := fun q => if ou c P q = q then cmr c P B q else 0) h1.2
    try dsimp only at this
    rw [if_pos h2, cmr_end hc hB h2 h1.2] at this
    exact this
section Q4
variable {P B C : Nat} {tx : Nat → Int32} {tk : Nat → Nat}
theorem s_mostEnd_4 {c : Nat → Nat} {e cm : Nat → Int32} (hc : okc c P) (hP : P ≤ 40) (hB10 : B ≤ 10) (he : AR e (ou c P) P) (hcm : ∀ q, q < P → cm q = nI (cmr c P B q)) : ∀ (n i : Nat), i ≤ P → P - i < n →
    f_X2_mostAtOneEnd_4 (nI P) e cm n (nI (mxs (fun q => if ou c P q = q then cmr c P B q else 0) i)) (nI i) = some (nI (mxs (fun q => if ou c P q = q then cmr c P B q else 0) P)) := by
  intro n
  induction n with
  | zero => intro i h1 h2; omega
  | succ n ih =>
    intro i h1 h2
    rw [f_X2_mostAtOneEnd_4]
    by_cases e0 : i = P
    · subst e0; rw [if_pos (ile (Nat.le_refl _) (by omega))]
    · have g1 := (ou_in hc i (by omega)).2
      have ih' := ih (i + 1) (by omega) (by omega)
      have hm : mxs (fun q => if ou c P q = q then cmr c P B q else 0) i ≤ 10 := mxs_le.mpr (fun q _ => by
        try dsimp only
        by_cases e2 : ou c P q = q
        · rw [if_pos e2]; exact Nat.le_trans cmr_le hB10
        · rw [if_neg e2]; omega)
      have hcl : cmr c P B i ≤ 10 := Nat.le_trans cmr_le hB10
      rw [if_neg (inle (by omega) (by omega)), inB_t (by omega) (by omega), ck_t, ix_nI (by omega), he i (by omega), hcm i (by omega)]
      simp only [nI_p1]
      rw [mxs] at ih'
      by_cases e2 : ou c P i = i
      · rw [if_pos (by rw [e2])]
        rw [if_pos e2] at ih'
        by_cases h3 : mxs (fun q => if ou c P q = q then cmr c P B q else 0) i < cmr c P B i
        · rw [if_pos (ilt h3 (by omega))]
          rw [Nat.max_eq_right (by omega)] at ih'; exact ih'
        · rw [if_neg (inlt (by omega) (by omega))]
          rw [Nat.max_eq_left (by omega)] at ih'; exact ih'
      · rw [if_neg (ine e2 (by omega) (by omega))]
        rw [if_neg e2, Nat.max_eq_left (Nat.zero_le _)] at ih'; exact ih'
theorem s_mostOne_17 {c : Nat → Nat} {ct : Nat → Int32} (hc : okc c P) (hP : P ≤ 40) (hr : AR ct c P) (hB : B ≤ P) (hB10 : B ≤ 10) (K : Int32 → Int32 → Option Int32) {v p : Nat} (hv : v ≤ 10) (hp : p < P) : ∀ (n i : Nat), i ≤ B → B - i < n →
    f_X6_mostAtOne_17 (nI P) (nI B) ct K n (nI v) (nI p) (nI (fb_ct (fun b => decide (ou c P b = ou c P p)) i)) (nI i) = K (nI (max v (atE c P B (ou c P p)))) (nI (p + 1)) := by
  intro n
  induction n with
  | zero => intro i h1 h2; omega
  | succ n ih =>
    intro i h1 h2
    have hle := fb_ct_le (fun b => decide (ou c P b = ou c P p)) i
    rw [f_X6_mostAtOne_17]
    by_cases e0 : i = B
    · subst e0
      rw [if_pos (ile (Nat.le_refl _) (by omega)), nI_p1]
      unfold atE
      by_cases h3 : fb_ct (fun b => decide (ou c P b = ou c P p)) i ≤ v
      · rw [if_pos (ile h3 (by omega)), Nat.max_eq_left h3]
      · rw [if_neg (inle (by omega) (by omega)), Nat.max_eq_right (by omega)]
    · have g1 := (ou_in hc i (by omega)).2
      have g2 := (ou_in hc p hp).2
      have ih' := ih (i + 1) (by omega) (by omega)
      have e1 : fb_ct (fun b => decide (ou c P b = ou c P p)) (i + 1) = fb_ct (fun b => decide (ou c P b = ou c P p)) i + (if decide (ou c P i = ou c P p) = true then 1 else 0) := fb_ct_succ _ _
      rw [if_neg (inle (by omega) (by omega)), s_outOf' hc hP hr (show i < P by omega), bd_s, s_outOf' hc hP hr hp, bd_s]
      simp only [nI_p1]
      by_cases e2 : ou c P i = ou c P p
      · have e3 : fb_ct (fun b => decide (ou c P b = ou c P p)) (i + 1) = fb_ct (fun b => decide (ou c P b = ou c P p)) i + 1 := by rw [e1]; simp [e2]
        rw [e3] at ih'
        rw [if_pos (by rw [e2])]; exact ih'
      · have e3 : fb_ct (fun b => decide (ou c P b = ou c P p)) (i + 1) = fb_ct (fun b => decide (ou c P b = ou c P p)) i := by rw [e1]; simp [e2]
        rw [e3] at ih'
        rw [if_neg (ine e2 (by omega) (by omega)), show nI (fb_ct (fun b => decide (ou c P b = ou c P p)) i) + (0 : Int32) = nI (fb_ct (fun b => decide (ou c P b = ou c P p)) i) from nI_add _ 0]; exact ih'
theorem s_mostOne_4 {c : Nat → Nat} {ct : Nat → Int32} (hc : okc c P) (hP : P ≤ 40) (hr : AR ct c P) (hB : B ≤ P) (hB10 : B ≤ 10) : ∀ (n i : Nat), i ≤ B → B - i < n →
    f_X6_mostAtOne_4 (nI P) (nI B) ct n (nI (mxs (fun b => atE c P B (ou c P b)) i)) (nI i) = some (nI (mxs (fun b => atE c P B (ou c P b)) B)) := by
  intro n
  induction n with
  | zero => intro i h1 h2; omega
  | succ n ih =>
    intro i h1 h2
    rw [f_X6_mostAtOne_4]
    by_cases e0 : i = B
    · subst e0; rw [if_pos (ile (Nat.le_refl _) (by omega))]
    · rw [if_neg (inle (by omega) (by omega))]
      have hm : mxs (fun b => atE c P B (ou c P b)) i ≤ 10 := mxs_le.mpr (fun q _ => Nat.le_trans (fb_ct_le _ _) hB10)
      have := s_mostOne_17 hc hP hr hB hB10 (f_X6_mostAtOne_4 (nI P) (nI B) ct n) hm (show i < P by omega) FU 0 (Nat.zero_le _) (FU_ge (by omega))
      refine Eq.trans this ?_
      exact ih (i + 1) (by omega) (by omega)
theorem s_best {tx : Nat → Int32} {tk : Nat → Nat} (hs : SGP tx tk P) (hP1 : 1 ≤ P) (hP : P ≤ 40) (hB1 : 1 ≤ B) (hB10 : B ≤ 10) (hB : B ≤ P) (hoc : ∀ C, 1 ≤ C → C ≤ 10 → okc (ctf tk C) P) (x : Int32) : ∀ (n i v : Nat) (v5 v6 rp rb op : Int32) (r1 r2 r3 r4 r5 m1 m2 : Nat → Int32), 1 ≤ i → i ≤ 11 → 11 - i < n → v ≤ 10 → (v5 = v6 ∨ (v = 0 ∧ i = 1)) →
    ∃ a w z, f_X5_best_32 x (nI P) (nI B) tx n (nI v) v5 (nI i) rp rb r1 r2 r3 r4 r5 = some (a, w) ∧ f_X6_best_29 x (nI P) (nI B) tx n (nI v) v6 (nI i) op m1 m2 = some (a, z) := by
  intro n
  induction n with
  | zero => intro i v v5 v6 rp rb op r1 r2 r3 r4 r5 m1 m2 h0 h1 h2; omega
  | succ n ih =>
    intro i v v5 v6 rp rb op r1 r2 r3 r4 r5 m1 m2 h0 h1 h2 hv h56
    rw [f_X5_best_32, f_X6_best_29, q_10]
    by_cases e0 : i = 11
    · subst e0
      have e56 : v5 = v6 := by
        rcases h56 with h | h
        · exact h
        · omega
      subst e56
      rw [if_pos (ilt (by omega) (by omega)), if_pos (ilt (by omega) (by omega))]
      by_cases hx : x = 0
      · rw [if_pos hx, if_pos hx]; exact ⟨_, _, _, rfl, rfl⟩
      · rw [if_neg hx, if_neg hx]; exact ⟨_, _, _, rfl, rfl⟩
    · have hc := hoc i h0 (by omega)
      obtain ⟨ct, ee, cm, ld, ch, k1, k2, k3, k4⟩ := s_follow hs hP hP1 hB hB10 hc r1 r2 r3 r4 r5
      rw [if_neg (inlt (by omega) (by omega)), if_neg (inlt (by omega) (by omega)), k1, bd_s, s_lay hs hP (by omega) (by rw [okc_zl hc]; exact Nat.zero_le _), bd_s]
      try dsimp only
      rw [f_X2_mostAtOneEnd, f_X6_mostAtOne]
      have a5 := s_mostEnd_4 hc hP hB10 k3 (fun q hq => (k4 q hq).1) FU 0 (Nat.zero_le _) (FU_ge (by omega))
      have a6 := s_mostOne_4 hc hP (AR_fill (ctf tk i) m1 P) hB hB10 FU 0 (Nat.zero_le _) (FU_ge (by omega))
      rw [mx_eq hc hB] at a5
      have b5 : f_X2_mostAtOneEnd_4 (nI P) ee cm FU (0 : Int32) (0 : Int32) = _ := a5
      have b6 : f_X6_mostAtOne_4 (nI P) (nI B) (fa_fill (fun j => nI (ctf tk i j)) m1 P) FU (0 : Int32) (0 : Int32) = _ := a6
      have hm : mxs (fun b => atE (ctf tk i) P B (ou (ctf tk i) P b)) B ≤ 10 := mxs_le.mpr (fun q _ => Nat.le_trans (fb_ct_le _ _) hB10)
      have hm1 : 1 ≤ mxs (fun b => atE (ctf tk i) P B (ou (ctf tk i) P b)) B := by
        refine Nat.le_trans ?_ (mxs_ge (g := fun b => atE (ctf tk i) P B (ou (ctf tk i) P b)) (i := 0) (by omega))
        exact fb_ct_pos.mpr ⟨0, by omega, decide_eq_true rfl⟩
      rw [b5, bd_s, b6, bd_s]
      generalize mxs (fun b => atE (ctf tk i) P B (ou (ctf tk i) P b)) B = M at hm hm1 ⊢
      simp only [nI_p1]
      by_cases h3 : M ≤ v
      · rw [if_pos (ile h3 (by omega)), if_pos (ile h3 (by omega))]
        have h57 : v5 = v6 := by
          rcases h56 with h | h
          · exact h
          · omega
        exact ih (i + 1) v v5 v6 _ _ _ _ _ _ _ _ _ _ (by omega) (by omega) (by omega) hv (Or.inl h57)
      · rw [if_neg (inle (by omega) (by omega)), if_neg (inle (by omega) (by omega))]
        exact ih (i + 1) M (nI i) (nI i) _ _ _ _ _ _ _ _ _ _ (by omega) (by omega) (by omega) hm (Or.inl rfl)
theorem t_best (h : PG P B C tx tk) (x : Int32) (rp rb : Int32) (r1 r2 r3 r4 r5 : Nat → Int32) (op : Int32) (m1 m2 : Nat → Int32) :
    ∃ a v w, f_X5_best x (nI P) (nI B) tx rp rb r1 r2 r3 r4 r5 = some (a, v) ∧ f_X6_best x (nI P) (nI B) op tx m1 m2 = some (a, w) := by
  obtain ⟨hs, hP1, hP, hB1, hB, hBP, hC1, hC, hk, h4, h5⟩ := id h
  rw [f_X5_best, f_X6_best, s_in, s6_isWhole _ hP]
  simp only [bd_s, ite10]
  have hic := in_cases x (show 1 < 2 ^ 31 by decide)
  rw [← q_1] at hic
  rcases hic with ⟨g1, g2, g3, g4⟩ | ⟨g1, g2⟩
  · rw [if_neg g3, if_pos g2, if_pos ⟨g1, g2⟩]
    rcases s5_isWhole tx hP with ⟨hw, e⟩ | ⟨hw, e⟩
    · rw [e, bd_s, bd_s, if_neg (by decide), if_neg (by decide)]
      exact s_best hs.p hP1 hP hB1 hB hBP (fun C' c1 c2 => h.okc hw c1 c2) x FU 1 0 1 0 rp rb op r1 r2 r3 r4 r5 m1 m2 (by omega) (by omega) (FU_ge (by omega)) (by omega) (Or.inr ⟨rfl, rfl⟩)
    · rw [e, bd_s, bd_s, if_pos rfl, if_pos rfl]
      exact ⟨_, _, _, rfl, rfl⟩
  · rw [if_neg g1]
    rcases g2 with g2 | ⟨g2, g3⟩
    · rw [if_pos g2]; exact ⟨_, _, _, rfl, rfl⟩
    · rw [if_neg g2, if_neg g3]; exact ⟨_, _, _, rfl, rfl⟩
end Q4
