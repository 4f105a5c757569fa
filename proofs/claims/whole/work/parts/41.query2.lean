theorem chn_ldr (c : Nat → Nat) (q : Nat) : ∀ i, chn c i q = 0 ↔ ldr c q i = 0
  | 0 => ⟨fun _ => rfl, fun _ => rfl⟩
  | i + 1 => by
    have ih := chn_ldr c q i
    have e : ldr c q (i + 1) = ldr c q i + (if decide (i + c i = q) = true then 1 else 0) := fb_ct_succ _ _
    rw [chn, e]
    by_cases h : i + c i = q
    · rw [if_pos h, if_pos (decide_eq_true h)]; omega
    · rw [if_neg h, if_neg (by simp [h])]; simpa using ih
section Q2
variable {P B C : Nat} {tx : Nat → Int32} {tk : Nat → Nat}
theorem s_layBehind_25 {c : Nat → Nat} {ct : Nat → Int32} (hc : okc c P) (hP : P ≤ 40) (hr : AR ct c P) : ∀ (n i : Nat) (bh : Nat → Int32), i ≤ P → P - i < n → (∀ q, q < P → bh q = nI (chn c i q)) →
    ∃ bh', f_X6_layBehind_25 (nI P) ct n (nI i) bh = some bh' ∧ ∀ q, q < P → bh' q = nI (chn c P q) := by
  intro n
  induction n with
  | zero => intro i bh h1 h2; omega
  | succ n ih =>
    intro i bh h1 h2 hq
    rw [f_X6_layBehind_25]
    by_cases e0 : i = P
    · subst e0; exact ⟨bh, by rw [if_pos (ile (Nat.le_refl _) (by omega))], hq⟩
    · have hiP : i < P := by omega
      have hci := hc i hiP
      rw [if_neg (inle hiP (by omega)), inB_t (by omega) (by omega), ck_t, ix_nI (by omega), hr i hiP, nI_add]
      simp only [nI_p1]
      by_cases h : i + c i < P
      · have h9 := chn_le c i i
        have h8 := chn_le c i (i + c i)
        rw [if_neg (inle h (by omega)), inB_t (by omega) (by omega), ck_t, ix_nI (by omega), hq _ h, hq i hiP, nI_p1]
        by_cases h7 : chn c i i + 1 ≤ chn c i (i + c i)
        · rw [if_pos (ile h7 (by omega))]
          refine ih (i + 1) _ (by omega) (by omega) (fun q hqP => ?_)
          rw [hq q hqP, chn]
          by_cases e2 : i + c i = q
          · rw [if_pos e2, ← e2, Nat.max_eq_left (by omega)]
          · rw [if_neg e2]
        · rw [if_neg (inle (by omega) (by omega))]
          refine ih (i + 1) _ (by omega) (by omega) (fun q hqP => ?_)
          rw [upd_at, chn]
          by_cases e2 : i + c i = q
          · rw [if_pos e2, if_pos e2.symm, ← e2, Nat.max_eq_right (by omega)]
          · rw [if_neg e2, if_neg (fun z => e2 z.symm)]; exact hq q hqP
      · rw [if_pos (ile (by omega) (by omega))]
        refine ih (i + 1) _ (by omega) (by omega) (fun q hqP => ?_)
        rw [hq q hqP, chn, if_neg (show ¬ i + c i = q by omega)]
theorem s_layBehind_2 {c : Nat → Nat} {ct : Nat → Int32} (hc : okc c P) (hP : P ≤ 40) (hr : AR ct c P) : ∀ (n i : Nat) (bh : Nat → Int32), i ≤ P → P - i < n → (∀ q, q < i → bh q = nI 0) →
    ∃ bh', f_X6_layBehind_2 (nI P) ct n (nI i) bh = some bh' ∧ ∀ q, q < P → bh' q = nI (chn c P q) := by
  intro n
  induction n with
  | zero => intro i bh h1 h2; omega
  | succ n ih =>
    intro i bh h1 h2 hq
    rw [f_X6_layBehind_2]
    by_cases e0 : i = P
    · subst e0
      rw [if_pos (ile (Nat.le_refl _) (by omega))]
      exact s_layBehind_25 hc hP hr FU 0 bh (Nat.zero_le _) (FU_ge (by omega)) hq
    · rw [if_neg (inle (by omega) (by omega)), inB_t (by omega) (by omega), ck_t, ix_nI (by omega), nI_p1]
      refine ih (i + 1) _ (by omega) (by omega) (fun q hq2 => ?_)
      rw [upd_at]
      by_cases e : q = i
      · rw [if_pos e]; rfl
      · rw [if_neg e]; exact hq q (by omega)
theorem s_layBehind {c : Nat → Nat} {ct : Nat → Int32} (hc : okc c P) (hP : P ≤ 40) (hr : AR ct c P) (bh : Nat → Int32) : ∃ bh', f_X6_layBehind (nI P) bh ct = some bh' ∧ ∀ q, q < P → bh' q = nI (chn c P q) :=
  s_layBehind_2 hc hP hr FU 0 bh (Nat.zero_le _) (FU_ge (by omega)) (fun q h => by omega)
theorem s_tree_52 {c : Nat → Nat} {ct : Nat → Int32} (hc : okc c P) (hP : P ≤ 40) (hr : AR ct c P) (hBP : B ≤ P) {q : Nat} (hq : q < P) (y op : Int32) (on bh : Nat → Int32) : ∀ (n i : Nat), i ≤ P → P - i < n →
    f_X6_tree_52 (nI q) y (nI P) (nI B) n (nI (fb_ct (fun b => decide (b < B) && rs c P b q) i)) (nI (ldr c q i)) (nI i) op ct on bh = some (if y = 0 then nI (fb_ct (fun b => decide (b < B) && rs c P b q) P) else if y = 1 then nI (ldr c q P) else bh q, op, ct, on, bh) := by
  intro n
  induction n with
  | zero => intro i h1 h2; omega
  | succ n ih =>
    intro i h1 h2
    rw [f_X6_tree_52]
    by_cases e0 : i = P
    · subst e0
      rw [if_pos (ile (Nat.le_refl _) (by omega)), inB_t (by omega) (by omega), ck_t, ix_nI (by omega)]
      repeat' split
      all_goals rfl
    · have hiP : i < P := by omega
      have hci := hc i hiP
      have ih' := ih (i + 1) (by omega) (by omega)
      rw [if_neg (inle hiP (by omega))]
      have e1 : fb_ct (fun b => decide (b < B) && rs c P b q) (i + 1) = fb_ct (fun b => decide (b < B) && rs c P b q) i + (if (decide (i < B) && rs c P i q) = true then 1 else 0) := fb_ct_succ _ _
      have e2 : ldr c q (i + 1) = ldr c q i + (if decide (i + c i = q) = true then 1 else 0) := fb_ct_succ _ _
      have key : ∀ z : Nat, z = (if (decide (i < B) && rs c P i q) = true then 1 else 0) → f_X6_tree_86 (nI q) (f_X6_tree_52 (nI q) y (nI P) (nI B) n) (nI (ldr c q i)) (nI i) (nI z) (nI (fb_ct (fun b => decide (b < B) && rs c P b q) i)) op ct on bh = some (if y = 0 then nI (fb_ct (fun b => decide (b < B) && rs c P b q) P) else if y = 1 then nI (ldr c q P) else bh q, op, ct, on, bh) := by
        intro z hz
        rw [f_X6_tree_86, inB_t (by omega) (by omega), ck_t, ix_nI (by omega), hr i hiP, nI_add, nI_add, hz, ← e1]
        simp only [nI_p1]
        by_cases h : i + c i = q
        · rw [if_pos (by rw [h])]
          rw [if_pos (decide_eq_true h)] at e2
          rw [← e2]
          exact ih'
        · rw [if_neg (ine h (by omega) (by omega))]
          have e3 : ldr c q (i + 1) = ldr c q i := by rw [e2]; simp [h]
          rw [e3] at ih'
          rw [show nI (ldr c q i) + (0 : Int32) = nI (ldr c q i) from nI_add _ 0]
          exact ih'
      by_cases hb : B ≤ i
      · rw [if_pos (ile hb (by omega))]
        exact key 0 (by rw [decide_eq_false (show ¬ i < B by omega)]; rfl)
      · rw [if_neg (inle (by omega) (by omega)), s_comesTo' hc hP hr hiP hq, bd_s]
        cases h : rs c P i q with
        | false => exact key 0 (by rw [h, Bool.and_false]; rfl)
        | true => exact key 1 (by rw [h, decide_eq_true (show i < B by omega)]; rfl)
theorem ct_cap {p : Nat → Bool} (hBP : B ≤ P) : fb_ct (fun b => decide (b < B) && p b) P = fb_ct p B := by
  rw [show P = B + (P - B) by omega, fb_ct_split]
  have h1 : fb_ct (fun b => decide (b < B) && p b) B = fb_ct p B := fb_ct_cong (fun k hk => by rw [decide_eq_true hk, Bool.true_and])
  have h2 : fb_ct (fun k => decide (B + k < B) && p (B + k)) (P - B) = 0 := fb_ct_zero.mpr (fun k _ => by rw [decide_eq_false (show ¬ B + k < B by omega), Bool.false_and])
  rw [h1, h2, Nat.add_zero]
theorem in_cases (y : Int32) {n : Nat} (hn : n < 2 ^ 31) : ((0 : Int32) ≤ y ∧ y ≤ nI n ∧ ¬ y < 0 ∧ ∃ j, j ≤ n ∧ y = nI j) ∨ (¬ ((0 : Int32) ≤ y ∧ y ≤ nI n) ∧ (y < 0 ∨ (¬ y < 0 ∧ ¬ y ≤ nI n))) := by
  by_cases h : y < 0
  · exact Or.inr ⟨fun q => nle_of_lt h q.1, Or.inl h⟩
  · by_cases h2 : y ≤ nI n
    · exact Or.inl ⟨le_of_nlt h, h2, h, nI_of2 (nI_toInt hn) h h2⟩
    · exact Or.inr ⟨fun q => h2 q.2, Or.inr ⟨h, h2⟩⟩
theorem t_tree (h : PG P B C tx tk) (x y : Int32) (rp rb : Int32) (r1 r2 r3 r4 r5 : Nat → Int32) (op : Int32) (m1 m2 m3 : Nat → Int32) :
    ∃ a v w, f_X5_tree x y (nI P) (nI B) (nI C) tx rp rb r1 r2 r3 r4 r5 = some (a, v) ∧ f_X6_tree x y (nI P) (nI B) (nI C) op tx m1 m2 m3 = some (a, w) := by
  obtain ⟨hs, hP1, hP, hB1, hB, hBP, hC1, hC, hk, h4, h5⟩ := id h
  rw [f_X5_tree, f_X6_tree, s_has (by omega), s_isPlace hP1 (by omega), s_in, s6_isWhole _ hP]
  simp only [bd_s, ite10]
  by_cases hx : ∃ j, j < P ∧ x = nI j
  · rw [if_pos hx, if_pos hx]
    obtain ⟨q, hq, rfl⟩ := hx
    rw [q_2]
    rcases in_cases y (show 2 < 2 ^ 31 by decide) with ⟨g1, g2, g3, g4⟩ | ⟨g1, g2⟩
    · rw [if_neg g3, if_pos g2, if_pos ⟨g1, g2⟩]
      rcases s5_isWhole tx hP with ⟨hw, e⟩ | ⟨hw, e⟩
      · have hc := h.okc hw hC1 hC
        obtain ⟨ct, ee, cm, ld, ch, h1, h2, h3, h6⟩ := s_follow hs.p hP hP1 hBP hB hc r1 r2 r3 r4 r5
        rw [e, bd_s, bd_s, if_neg (by decide), if_neg (by decide), h1, bd_s, s_lay hs.p hP hC (by rw [okc_zl hc]; exact Nat.zero_le _), bd_s]
        dsimp only
        obtain ⟨bh, k1, k2⟩ := s_layBehind hc hP (AR_fill (ctf tk C) m1 P) m3
        have k3 := s_tree_52 hc hP (AR_fill (ctf tk C) m1 P) hBP hq y (nI (zl (ctf tk C) P).length) (opf (ctf tk C) m2 P) bh FU 0 (Nat.zero_le _) (FU_ge (by omega))
        rw [k1, bd_s, inB_t (by omega) (by omega), ck_t, ck_t, ck_t, ix_nI (by omega), (h6 q hq).1, (h6 q hq).2.1, (h6 q hq).2.2]
        have k4 : f_X6_tree_52 (nI q) y (nI P) (nI B) FU (0 : Int32) (0 : Int32) (0 : Int32) (nI (zl (ctf tk C) P).length) (fa_fill (fun j => nI (ctf tk C j)) m1 P) (opf (ctf tk C) m2 P) bh = _ := k3
        rw [k4, ct_cap hBP, k2 q hq]
        by_cases y0 : y = 0
        · rw [if_pos y0, if_pos y0]; exact ⟨_, _, _, rfl, rfl⟩
        · rw [if_neg y0, if_neg y0]
          by_cases y1 : y = 1
          · rw [if_pos y1, if_pos y1]; exact ⟨_, _, _, rfl, rfl⟩
          · rw [if_neg y1, if_neg y1]; exact ⟨_, _, _, rfl, rfl⟩
      · rw [e, bd_s, bd_s, if_pos rfl, if_pos rfl]
        exact ⟨_, _, _, rfl, rfl⟩
    · rw [if_neg g1]
      rcases g2 with g2 | ⟨g2, g3⟩
      · rw [if_pos g2]; exact ⟨_, _, _, rfl, rfl⟩
      · rw [if_neg g2, if_neg g3]; exact ⟨_, _, _, rfl, rfl⟩
  · rw [if_neg hx, if_neg hx]
    exact ⟨_, _, _, rfl, rfl⟩
theorem s_nowhere5 (g : Nat → Nat) (hP : P ≤ 40) (pl bg : Int32) (hpl : pl = nI P) (ct e cm ld ch : Nat → Int32) (hg : ∀ q, q < P → ld q = nI (g q) ∧ g q ≤ 40) : ∀ (n i : Nat), i ≤ P → P - i < n →
    f_X5_nowhere_42 n (nI (fb_ct (fun q => decide (g q = 0)) i)) (nI i) pl bg ct e cm ld ch = some (nI (fb_ct (fun q => decide (g q = 0)) P), pl, bg, ct, e, cm, ld, ch) := by
  intro n
  subst hpl
  induction n with
  | zero => intro i h1 h2; omega
  | succ n ih =>
    intro i h1 h2
    rw [f_X5_nowhere_42]
    by_cases e0 : i = P
    · subst e0; rw [if_pos (ile (Nat.le_refl _) (by omega))]
    · have hi := hg i (by omega)
      have ih' := ih (i + 1) (by omega) (by omega)
      have e1 : fb_ct (fun q => decide (g q = 0)) (i + 1) = fb_ct (fun q => decide (g q = 0)) i + (if decide (g i = 0) = true then 1 else 0) := fb_ct_succ _ _
      rw [if_neg (inle (by omega) (by omega)), inB_t (by omega) (by omega), ck_t, ix_nI (by omega), hi.1]
      simp only [nI_p1]
      by_cases h : g i = 0
      · rw [if_pos (decide_eq_true h)] at e1
        rw [if_pos (by rw [h]; rfl), ← e1]; exact ih'
      · have e3 : fb_ct (fun q => decide (g q = 0)) (i + 1) = fb_ct (fun q => decide (g q = 0)) i := by rw [e1]; simp [h]
        rw [e3] at ih'
        rw [if_neg (by rw [q_0]; exact ine h (by omega) (by omega))]; exact ih'
theorem s_nowhere6 (g : Nat → Nat) (hP : P ≤ 40) (op : Int32) (ct on bh : Nat → Int32) (hg : ∀ q, q < P → bh q = nI (g q) ∧ g q ≤ 40) : ∀ (n i : Nat), i ≤ P → P - i < n →
    f_X6_nowhere_26 (nI P) n (nI (fb_ct (fun q => decide (g q = 0)) i)) (nI i) op ct on bh = some (nI (fb_ct (fun q => decide (g q = 0)) P), op, ct, on, bh) := by
  intro n
  induction n with
  | zero => intro i h1 h2; omega
  | succ n ih =>
    intro i h1 h2
    rw [f_X6_nowhere_26]
    by_cases e0 : i = P
    · subst e0; rw [if_pos (ile (Nat.le_refl _) (by omega))]
    · have hi := hg i (by omega)
      have ih' := ih (i + 1) (by omega) (by omega)
      have e1 : fb_ct (fun q => decide (g q = 0)) (i + 1) = fb_ct (fun q => decide (g q = 0)) i + (if decide (g i = 0) = true then 1 else 0) := fb_ct_succ _ _
      rw [if_neg (inle (by omega) (by omega)), inB_t (by omega) (by omega), ck_t, ix_nI (by omega), hi.1]
      simp only [nI_p1]
      by_cases h : g i = 0
      · rw [if_pos (decide_eq_true h)] at e1
        rw [if_pos (by rw [h]; rfl), ← e1]; exact ih'
      · have e3 : fb_ct (fun q => decide (g q = 0)) (i + 1) = fb_ct (fun q => decide (g q = 0)) i := by rw [e1]; simp [h]
        rw [e3] at ih'
        rw [if_neg (by rw [q_0]; exact ine h (by omega) (by omega)), show nI (fb_ct (fun q => decide (g q = 0)) i) + (0 : Int32) = nI (fb_ct (fun q => decide (g q = 0)) i) from nI_add _ 0]; exact ih'
theorem t_nowhere (h : PG P B C tx tk) (rp rb : Int32) (r1 r2 r3 r4 r5 : Nat → Int32) (op : Int32) (m1 m2 m3 : Nat → Int32) :
    ∃ a v w, f_X5_nowhere (nI P) (nI B) (nI C) tx rp rb r1 r2 r3 r4 r5 = some (a, v) ∧ f_X6_nowhere (nI P) (nI C) op tx m1 m2 m3 = some (a, w) := by
  obtain ⟨hs, hP1, hP, hB1, hB, hBP, hC1, hC, hk, h4, h5⟩ := id h
  rw [f_X5_nowhere, f_X6_nowhere, s6_isWhole _ hP]
  rcases s5_isWhole tx hP with ⟨hw, e⟩ | ⟨hw, e⟩
  · have hc := h.okc hw hC1 hC
    obtain ⟨ct, ee, cm, ld, ch, h1, h2, h3, h6⟩ := s_follow hs.p hP hP1 hBP hB hc r1 r2 r3 r4 r5
    rw [e, bd_s, bd_s, if_neg (by decide), if_neg (by decide), h1, bd_s, s_lay hs.p hP hC (by rw [okc_zl hc]; exact Nat.zero_le _), bd_s]
    dsimp only
    obtain ⟨bh, k1, k2⟩ := s_layBehind hc hP (AR_fill (ctf tk C) m1 P) m3
    rw [k1, bd_s]
    have a5 := s_nowhere5 (fun q => ldr (ctf tk C) q P) hP (nI P) (nI B) rfl ct ee cm ld ch (fun q hq => ⟨(h6 q hq).2.1, Nat.le_trans (fb_ct_le _ _) hP⟩) FU 0 (Nat.zero_le _) (FU_ge (by omega))
    have a6 := s_nowhere6 (fun q => chn (ctf tk C) P q) hP (nI (zl (ctf tk C) P).length) (fa_fill (fun j => nI (ctf tk C j)) m1 P) (opf (ctf tk C) m2 P) bh (fun q hq => ⟨k2 q hq, Nat.le_trans (chn_le _ _ _) hP⟩) FU 0 (Nat.zero_le _) (FU_ge (by omega))
    have ee2 : fb_ct (fun q => decide (ldr (ctf tk C) q P = 0)) P = fb_ct (fun q => decide (chn (ctf tk C) P q = 0)) P := fb_ct_cong (fun q _ => by
      by_cases z : chn (ctf tk C) P q = 0
      · rw [decide_eq_true z, decide_eq_true ((chn_ldr _ _ _).mp z)]
      · rw [decide_eq_false z, decide_eq_false (fun z2 => z ((chn_ldr _ _ _).mpr z2))])
    rw [ee2] at a5
    exact ⟨_, _, _, a5, a6⟩
  · rw [e, bd_s, bd_s, if_pos rfl, if_pos rfl]
    exact ⟨_, _, _, rfl, rfl⟩
end Q2
