/-! ===== packs ===== -/
def swp (t : Nat → Nat) (a b : Nat) : Nat → Nat := fun k => if k = b then t a else if k = a then t b else t k
def mxN : Nat → Nat → (Nat → Nat) → (Nat → Nat)
  | 0, _, t => t
  | i + 1, s, t => mxN i ((s * 75 + 74) % 65537) (swp t (i + 1) ((s * 75 + 74) % 65537 % (i + 2)))
theorem swp_ct (p : Nat → Bool) (t : Nat → Nat) {a b n : Nat} (ha : a < n) (hb : b < n) : fb_ct (fun k => p (swp t a b k)) n = fb_ct (fun k => p (t k)) n := by
  have h1 := fb_ct_upd (fun k => p (t k)) (p (t b)) ha
  have h2 := fb_ct_upd (fun k => if k = a then p (t b) else p (t k)) (p (t a)) hb
  have e : (fun k => p (swp t a b k)) = fun k => if k = b then p (t a) else if k = a then p (t b) else p (t k) := by
    funext k
    unfold swp
    by_cases e1 : k = b
    · rw [if_pos e1, if_pos e1]
    · rw [if_neg e1, if_neg e1]
      by_cases e2 : k = a
      · rw [if_pos e2, if_pos e2]
      · rw [if_neg e2, if_neg e2]
  rw [e]
  have e3 : (if b = a then p (t b) else p (t b)) = p (t b) := by split <;> rfl
  try dsimp only at h1 h2
  rw [e3] at h2
  generalize (if p (t a) = true then 1 else 0) = A1 at h1 h2
  generalize (if p (t b) = true then 1 else 0) = B1 at h1 h2
  generalize fb_ct (fun k => if k = a then p (t b) else p (t k)) n = X1 at h1 h2
  generalize fb_ct (fun k => if k = b then p (t a) else if k = a then p (t b) else p (t k)) n = X2 at h2 ⊢
  generalize fb_ct (fun k => p (t k)) n = X0 at h1 ⊢
  omega
theorem swp_all {Q : Nat → Prop} {t : Nat → Nat} {a b n : Nat} (ha : a < n) (hb : b < n) (h : ∀ k, k < n → Q (t k)) : ∀ k, k < n → Q (swp t a b k) := fun k hk => by
  unfold swp
  by_cases e1 : k = b
  · rw [if_pos e1]; exact h a ha
  · rw [if_neg e1]
    by_cases e2 : k = a
    · rw [if_pos e2]; exact h b hb
    · rw [if_neg e2]; exact h k hk
theorem mxN_ct (p : Nat → Bool) {n : Nat} : ∀ (i s : Nat) (t : Nat → Nat), i < n → fb_ct (fun k => p (mxN i s t k)) n = fb_ct (fun k => p (t k)) n := by
  intro i
  induction i with
  | zero => intro s t h; rfl
  | succ i ih =>
    intro s t h
    rw [mxN, ih _ _ (by omega), swp_ct p t h (by have := Nat.mod_lt ((s * 75 + 74) % 65537) (show 0 < i + 2 by omega); omega)]
theorem mxN_all {Q : Nat → Prop} {n : Nat} : ∀ (i s : Nat) (t : Nat → Nat), i < n → (∀ k, k < n → Q (t k)) → ∀ k, k < n → Q (mxN i s t k) := by
  intro i
  induction i with
  | zero => intro s t h hq; exact hq
  | succ i ih =>
    intro s t h hq
    rw [mxN]
    exact ih _ _ (by omega) (swp_all h (by have := Nat.mod_lt ((s * 75 + 74) % 65537) (show 0 < i + 2 by omega); omega) hq)
theorem mxN_out : ∀ (i s : Nat) (t : Nat → Nat) (k : Nat), i < k → mxN i s t k = t k := by
  intro i
  induction i with
  | zero => intro s t k h; rfl
  | succ i ih =>
    intro s t k h
    have := Nat.mod_lt ((s * 75 + 74) % 65537) (show 0 < i + 2 by omega)
    rw [mxN, ih _ _ _ (by omega)]
    unfold swp
    rw [if_neg (by omega), if_neg (by omega)]
theorem seed_step {s : Nat} (hs : s < 65537) : ((nI s * (75 : Int32)) + (74 : Int32)) - ((nI s * (75 : Int32)) + (74 : Int32)) / (65537 : Int32) * (65537 : Int32) = nI ((s * 75 + 74) % 65537) := by
  rw [q_75, pk_mul, q_74, nI_add, q_65537, pk_rem (by omega) (by decide) (by decide)]
theorem s5_mix_7 {P : Nat} (hP : P ≤ 40) : ∀ (n i s : Nat) (t : Nat → Nat) (m : Nat → Int32), i < P → i < n → s < 65537 → (∀ k, k < P → m k = nI (t k) ∧ t k < 65536) →
    ∃ m', f_X5_mix_7 n (nI s) (nI i) m = some m' ∧ (∀ k, k < P → m' k = nI (mxN i s t k)) ∧ ∀ k, P ≤ k → m' k = m k := by
  intro n
  induction n with
  | zero => intro i s t m h1 h2; omega
  | succ n ih =>
    intro i s t m h1 h2 hs hm
    rw [f_X5_mix_7]
    by_cases e0 : i = 0
    · subst e0
      exact ⟨m, by rw [if_pos (show nI 0 < 1 by decide)], fun k hk => (hm k hk).1, fun k hk => rfl⟩
    · obtain ⟨j, rfl⟩ : ∃ j, i = j + 1 := ⟨i - 1, by omega⟩
      have hs' := Nat.mod_lt (s * 75 + 74) (show 0 < 65537 by decide)
      have hj := Nat.mod_lt ((s * 75 + 74) % 65537) (show 0 < j + 2 by omega)
      rw [if_neg (show ¬ nI (j + 1) < (1 : Int32) from inlt (b := 1) (by omega) (by omega)), nI_p1, decide_eq_true (by rw [q_0]; exact ine (by omega) (by omega) (by omega)), ck_t, inB_t (by omega) (by omega), ck_t]
      simp only [seed_step hs]
      rw [pk_rem (by omega) (by omega) (by omega), show j + 1 + 1 = j + 2 from rfl, inB_t (by omega) (by omega), ck_t, sb_m1 (by omega), Nat.add_sub_cancel, ix_nI (by omega), ix_nI (by omega)]
      rw [(hm (j + 1) h1).1, (hm ((s * 75 + 74) % 65537 % (j + 2)) (by omega)).1, nar_char (hm (j + 1) h1).2, nar_char (hm ((s * 75 + 74) % 65537 % (j + 2)) (by omega)).2]
      obtain ⟨m', k1, k2, k3⟩ := ih j ((s * 75 + 74) % 65537) (swp t (j + 1) ((s * 75 + 74) % 65537 % (j + 2))) (upd (upd m (j + 1) (nI (t ((s * 75 + 74) % 65537 % (j + 2))))) ((s * 75 + 74) % 65537 % (j + 2)) (nI (t (j + 1)))) (by omega) (by omega) hs' (fun k hk => by
        refine ⟨?_, swp_all (Q := fun z => z < 65536) h1 (by omega) (fun k hk => (hm k hk).2) k hk⟩
        rw [upd_at, upd_at]
        unfold swp
        by_cases e1 : k = (s * 75 + 74) % 65537 % (j + 2)
        · rw [if_pos e1, if_pos e1]
        · rw [if_neg e1, if_neg e1]
          by_cases e2 : k = j + 1
          · rw [if_pos e2, if_pos e2]
          · rw [if_neg e2, if_neg e2]; exact (hm k hk).1)
      refine ⟨m', k1, k2, fun k hk => ?_⟩
      rw [k3 k hk, upd_at, upd_at, if_neg (by omega), if_neg (by omega)]
theorem s6_mix_9 {P : Nat} (hP : P ≤ 40) : ∀ (n i s : Nat) (t : Nat → Nat) (m : Nat → Int32), i < P → i < n → s < 65537 → (∀ k, k < P → m k = nI (t k) ∧ t k < 65536) →
    ∃ m', f_X6_mix_9 n (nI s) (nI i) m = some m' ∧ (∀ k, k < P → m' k = nI (mxN i s t k)) := by
  intro n
  induction n with
  | zero => intro i s t m h1 h2; omega
  | succ n ih =>
    intro i s t m h1 h2 hs hm
    rw [f_X6_mix_9]
    by_cases e0 : i = 0
    · subst e0
      exact ⟨m, by rw [if_pos (show nI 0 ≤ 0 by decide)], fun k hk => (hm k hk).1⟩
    · obtain ⟨j, rfl⟩ : ∃ j, i = j + 1 := ⟨i - 1, by omega⟩
      have hs' := Nat.mod_lt (s * 75 + 74) (show 0 < 65537 by decide)
      have hj := Nat.mod_lt ((s * 75 + 74) % 65537) (show 0 < j + 2 by omega)
      rw [if_neg (by rw [q_0]; exact inle (by omega) (by omega)), nI_p1, decide_eq_true (by rw [q_0]; exact ine (by omega) (by omega) (by omega)), ck_t, inB_t (by omega) (by omega), ck_t]
      simp only [seed_step hs]
      rw [pk_rem (by omega) (by omega) (by omega), show j + 1 + 1 = j + 2 from rfl, inB_t (by omega) (by omega), ck_t, sb_m1 (by omega), Nat.add_sub_cancel, ix_nI (by omega), ix_nI (by omega)]
      rw [(hm (j + 1) h1).1, (hm ((s * 75 + 74) % 65537 % (j + 2)) (by omega)).1]
      refine ih j ((s * 75 + 74) % 65537) (swp t (j + 1) ((s * 75 + 74) % 65537 % (j + 2))) (upd (upd m (j + 1) (nI (t ((s * 75 + 74) % 65537 % (j + 2))))) ((s * 75 + 74) % 65537 % (j + 2)) (nI (t (j + 1)))) (by omega) (by omega) hs' (fun k hk => ?_)
      refine ⟨?_, swp_all (Q := fun z => z < 65536) h1 (by omega) (fun k hk => (hm k hk).2) k hk⟩
      rw [upd_at, upd_at]
      unfold swp
      by_cases e1 : k = (s * 75 + 74) % 65537 % (j + 2)
      · rw [if_pos e1, if_pos e1]
      · rw [if_neg e1, if_neg e1]
        by_cases e2 : k = j + 1
        · rw [if_pos e2, if_pos e2]
        · rw [if_neg e2, if_neg e2]; exact (hm k hk).1
theorem s_takePack_2 {P : Nat} (hP : P ≤ 40) (pg : Nat → Int32) : ∀ (n i : Nat) (m : Nat → Int32), i ≤ P → P - i < n → (∀ k, k < i → m k = pg k) →
    ∃ m', f_X6_takePack_2 (nI P) pg n (nI i) m = some m' ∧ ∀ k, k < P → m' k = pg k := by
  intro n
  induction n with
  | zero => intro i m h1 h2; omega
  | succ n ih =>
    intro i m h1 h2 hm
    rw [f_X6_takePack_2]
    by_cases e0 : i = P
    · subst e0; exact ⟨m, by rw [if_pos (ile (Nat.le_refl _) (by omega))], hm⟩
    · rw [if_neg (inle (by omega) (by omega)), inB_t (by omega) (by omega), ck_t, ix_nI (by omega), nI_p1]
      refine ih (i + 1) _ (by omega) (by omega) (fun k hk => ?_)
      rw [upd_at]
      by_cases e : k = i
      · rw [if_pos e, e]
      · rw [if_neg e]; exact hm k (by omega)
theorem s_takePack {P : Nat} (hP : P ≤ 40) (pg m : Nat → Int32) : ∃ m', f_X6_takePack (nI P) m pg = some m' ∧ ∀ k, k < P → m' k = pg k :=
  s_takePack_2 hP pg FU 0 m (Nat.zero_le _) (FU_ge (by omega)) (fun k h => by omega)
theorem s_shuffle_25 {P : Nat} (hP : P ≤ 40) (pk : Nat → Int32) : ∀ (n i : Nat) (pg : Nat → Int32), i ≤ P → P - i < n →
    f_X6_shuffle_25 (nI P) n (nI i) pk pg = some (nI P, pk, fun k => if i ≤ k ∧ k < P then pk k else pg k) := by
  intro n
  induction n with
  | zero => intro i pg h1 h2; omega
  | succ n ih =>
    intro i pg h1 h2
    rw [f_X6_shuffle_25]
    by_cases e0 : i = P
    · subst e0
      rw [if_pos (ile (Nat.le_refl _) (by omega))]
      congr 3
      funext k
      rw [if_neg (by omega)]
    · rw [if_neg (inle (by omega) (by omega)), inB_t (by omega) (by omega), ck_t, ix_nI (by omega), nI_p1, ih (i + 1) _ (by omega) (by omega)]
      congr 3
      funext k
      rw [upd_at]
      by_cases e1 : k = i
      · rw [if_neg (by omega), if_pos e1, if_pos (by omega), e1]
      · by_cases e2 : i + 1 ≤ k ∧ k < P
        · rw [if_pos e2, if_pos (by omega)]
        · rw [if_neg e2, if_neg e1, if_neg (by omega)]
section Q5
variable {P B C : Nat} {tx : Nat → Int32} {tk : Nat → Nat}
theorem PG.mixed (h : PG P B C tx tk) {i : Nat} (hi : i < P) (s : Nat) : PG P B C (fun k => nI (mxN i s tk k)) (mxN i s tk) := by
  obtain ⟨hs, hP1, hP, hB1, hB, hBP, hC1, hC, hk, h4, h5⟩ := h
  have hS : SG (fun k => nI (mxN i s tk k)) (mxN i s tk) := fun k => by
    refine ⟨rfl, ?_⟩
    rcases Nat.lt_or_ge k P with q | q
    · exact mxN_all (Q := fun z => z < 65536) i s tk hi (fun k _ => (hs k).2) k q
    · rw [mxN_out i s tk k (by omega)]; exact (hs k).2
  refine ⟨hS, hP1, hP, hB1, hB, hBP, hC1, hC, mxN_all i s tk hi hk, ?_, ?_⟩
  · rw [q_42, cnS_tk hS (by decide), mxN_ct (fun z => decide (z = 42)) i s tk hi, ← cnS_tk hs (by decide)]; exact h4
  · rw [q_63, cnS_tk hS (by decide), mxN_ct (fun z => decide (z = 63)) i s tk hi, ← cnS_tk hs (by decide)]; exact h5
theorem whl_mixed (hs : SG tx tk) {i : Nat} (hi : i < P) (s : Nat) (hS : SG (fun k => nI (mxN i s tk k)) (mxN i s tk)) (hw : whl tx P) : whl (fun k => nI (mxN i s tk k)) P := by
  refine ⟨?_, ?_⟩
  · rw [q_42, cnS_tk hS (by decide), mxN_ct (fun z => decide (z = 42)) i s tk hi, ← cnS_tk hs (by decide)]; exact hw.1
  · rw [q_63, cnS_tk hS (by decide), mxN_ct (fun z => decide (z = 63)) i s tk hi, ← cnS_tk hs (by decide)]; exact hw.2
/-- SHUFFLED: the same new page, or refused -/
theorem t_shuffle (h : PG P B C tx tk) (x : Int32) (m1 : Nat → Int32) :
    (∃ w, f_X5_shuffle x (nI P) tx = some (-2, tx) ∧ f_X6_shuffle x (nI P) m1 tx = some (-2, w, tx)) ∨
    (∃ s w, f_X5_shuffle x (nI P) tx = some (nI P, fun k => nI (mxN (P - 1) s tk k)) ∧ f_X6_shuffle x (nI P) m1 tx = some (nI P, w, fun k => nI (mxN (P - 1) s tk k))) := by
  obtain ⟨hs, hP1, hP, hB1, hB, hBP, hC1, hC, hk, h4, h5⟩ := id h
  rw [f_X5_shuffle, f_X6_shuffle, s_in, bd_s, ite10]
  have hic := in_cases x (show 9999 < 2 ^ 31 by decide)
  rw [← q_9999] at hic
  rcases hic with ⟨g1, g2, g3, s, g4, rfl⟩ | ⟨g1, g2⟩
  · rw [if_neg g3, if_pos g2, if_pos ⟨g1, g2⟩, f_X5_mix, nI_m1 hP1]
    right
    obtain ⟨m', k1, k2, k3⟩ := s5_mix_7 hP FU (P - 1) s tk tx (by omega) (FU_ge (by omega)) (by omega) (fun k _ => hs k)
    obtain ⟨pk, k4, k5⟩ := s_takePack hP tx m1
    obtain ⟨pk', k6, k7⟩ := s6_mix_9 hP FU (P - 1) s tk pk (by omega) (FU_ge (by omega)) (by omega) (fun k hk => by rw [k5 k hk]; exact hs k)
    rw [k1, bd_s, k4, bd_s, f_X6_mix, nI_m1 hP1, k6, bd_s]
    have k8 := s_shuffle_25 hP pk' FU 0 tx (Nat.zero_le _) (FU_ge (by omega))
    have k9 : f_X6_shuffle_25 (nI P) FU (0 : Int32) pk' tx = _ := k8
    rw [k9]
    have e1 : m' = fun k => nI (mxN (P - 1) s tk k) := by
      funext k
      rcases Nat.lt_or_ge k P with q | q
      · exact k2 k q
      · rw [k3 k q, mxN_out _ _ _ _ (by omega)]; exact (hs k).1
    have e2 : (fun k => if 0 ≤ k ∧ k < P then pk' k else tx k) = fun k => nI (mxN (P - 1) s tk k) := by
      funext k
      rcases Nat.lt_or_ge k P with q | q
      · rw [if_pos ⟨Nat.zero_le _, q⟩]; exact k7 k q
      · rw [if_neg (by omega), mxN_out _ _ _ _ (by omega)]; exact (hs k).1
    rw [e1, e2]
    exact ⟨s, pk', rfl, rfl⟩
  · left
    rw [if_neg g1]
    rcases g2 with g2 | ⟨g2, g3⟩
    · rw [if_pos g2]; exact ⟨_, rfl, rfl⟩
    · rw [if_neg g2, if_neg g3]; exact ⟨_, rfl, rfl⟩
theorem s_wrong_53 {tx2 : Nat → Int32} {tk2 : Nat → Nat} (hs : SGP tx2 tk2 P) (hP : P ≤ 40) (hC : C ≤ 10) (hc : okc (ctf tk2 C) P) {a b : Nat} (ha : a < P) (hb : b < P) (K : Int32 → Int32 → (Nat → Int32) → (Nat → Int32) → Option (Int32 × (Nat → Int32) × (Nat → Int32))) (v3 v4 : Int32) : ∀ (n i : Nat) (ct : Nat → Int32), i ≤ P → P - i < n → (∀ k, k < i → ct k = nI (ctf tk2 C k)) →
    ∃ ct', f_X6_wrong_53 (nI a) (nI b) (nI P) (nI C) K n v3 v4 (nI i) tx2 ct = K (v3 + (if ou (ctf tk2 C) P a = ou (ctf tk2 C) P b then 0 else 1)) (v4 + 1) tx2 ct' := by
  intro n
  induction n with
  | zero => intro i ct h1 h2; omega
  | succ n ih =>
    intro i ct h1 h2 hct
    rw [f_X6_wrong_53]
    by_cases e0 : i = P
    · subst e0
      rw [if_pos (ile (Nat.le_refl _) (by omega)), f_X6_meetOf]
      rcases s_meetOf hc hP hct FU a b ha hb (Nat.le_of_lt (FU_ge (by omega))) with ⟨k1, k2⟩ | ⟨z, k1, k2, k3, k4, k5⟩
      · rw [k1, bd_s, if_neg (by decide), if_neg k2]; exact ⟨ct, rfl⟩
      · rw [k1, bd_s, if_pos (nI_pos' (by omega)), if_pos ((rs_ou hc a ha z k3).symm.trans (rs_ou hc b hb z k4))]; exact ⟨ct, rfl⟩
    · have hi := hs i (by omega)
      rw [if_neg (inle (by omega) (by omega)), inB_t (by omega) (by omega), ck_t, ix_nI (by omega), hi.1, s6_countOf hi.2, bd_s, nI_p1]
      refine ih (i + 1) _ (by omega) (by omega) (fun k hk => ?_)
      rw [upd_at]
      by_cases e : k = i
      · rw [if_pos e, e]; rfl
      · rw [if_neg e]; exact hct k (by omega)
theorem s_wrong (h : PG P B C tx tk) (hw : whl tx P) {a b : Nat} (ha : a < P) (hb : b < P) : ∀ (n i : Nat) (v : Int32) (rp rb : Int32) (p5 r1 r2 r3 r4 r5 m1 m2 : Nat → Int32), i ≤ 100 → 100 - i < n →
    ∃ q w z, f_X5_wrong_42 (nI a) (nI b) (nI P) (nI B) (nI C) tx n v (nI i) p5 rp rb r1 r2 r3 r4 r5 = some (q, w) ∧ f_X6_wrong_33 (nI a) (nI b) (nI P) (nI C) tx n v (nI i) m1 m2 = some (q, z) := by
  obtain ⟨hs, hP1, hP, hB1, hB, hBP, hC1, hC, hk, h4, h5⟩ := id h
  intro n
  induction n with
  | zero => intro i v rp rb p5 r1 r2 r3 r4 r5 m1 m2 h1 h2; omega
  | succ n ih =>
    intro i v rp rb p5 r1 r2 r3 r4 r5 m1 m2 h1 h2
    rw [f_X5_wrong_42, f_X6_wrong_33, q_100]
    by_cases e0 : i = 100
    · subst e0
      rw [if_pos (ile (Nat.le_refl _) (by omega)), if_pos (ile (Nat.le_refl _) (by omega))]
      exact ⟨_, _, _, rfl, rfl⟩
    · have hfit : fitC tx (0 : Int32) (40 : Int32) = true := by
        unfold fitC
        rw [List.all_eq_true]
        intro k _
        rw [(hs _).1]
        exact (pk_charN (hs _).2).2
      obtain ⟨m', k1, k2, k3⟩ := s5_mix_7 hP FU (P - 1) i tk (va_cpy tx p5 (ix (0 : Int32)) (ix (0 : Int32)) (ix (40 : Int32))) (by omega) (FU_ge (by omega)) (by omega) (fun k hk => by
        have e : va_cpy tx p5 (ix (0 : Int32)) (ix (0 : Int32)) (ix (40 : Int32)) k = tx k := by
          rw [show ix (0 : Int32) = 0 from ix_nI (by decide), show ix (40 : Int32) = 40 from ix_nI (by decide)]
          exact sb_cpy0 (by omega)
        rw [e]; exact hs k)
      obtain ⟨pk, k4, k5⟩ := s_takePack hP tx m1
      obtain ⟨pk', k6, k7⟩ := s6_mix_9 hP FU (P - 1) i tk pk (by omega) (FU_ge (by omega)) (by omega) (fun k hk => by rw [k5 k hk]; exact hs k)
      have hM := h.mixed (show P - 1 < P by omega) i
      have hwM := whl_mixed hs (show P - 1 < P by omega) i hM.1 hw
      have hcM := hM.okc hwM hC1 hC
      have hs5 : SGP m' (mxN (P - 1) i tk) P := fun k hk => ⟨k2 k hk, (hM.1 k).2⟩
      have hs6 : SGP pk' (mxN (P - 1) i tk) P := fun k hk => ⟨k7 k hk, (hM.1 k).2⟩
      obtain ⟨ct, ee, cm, ld, ch, j1, j2, j3, _⟩ := s_follow hs5 hP hP1 hBP hB hcM r1 r2 r3 r4 r5
      rw [if_neg (inle (by omega) (by omega)), if_neg (inle (by omega) (by omega)), hfit, ck_t, f_X5_mix, nI_m1 hP1, k1, bd_s, j1, bd_s, k4, bd_s, f_X6_mix, nI_m1 hP1, k6, bd_s]
      dsimp only
      rw [inB_t (show a < 40 by omega) (by decide), ck_t, inB_t (show b < 40 by omega) (by decide), ck_t, ix_nI (show a < 2 ^ 31 by omega), ix_nI (show b < 2 ^ 31 by omega)]
      have hwr := s_wrong_53 hs6 hP hC hcM ha hb (f_X6_wrong_33 (nI a) (nI b) (nI P) (nI C) tx n) v (nI i) FU 0 m2 (Nat.zero_le _) (FU_ge (by omega)) (fun k hk => by omega)
      obtain ⟨ct', hwr⟩ := hwr
      have hwr2 : f_X6_wrong_53 (nI a) (nI b) (nI P) (nI C) (f_X6_wrong_33 (nI a) (nI b) (nI P) (nI C) tx n) FU v (nI i) (0 : Int32) pk' m2 = _ := hwr
      rw [hwr2]
      have o1 := (ou_in hcM a ha).2
      have o2 := (ou_in hcM b hb).2
      simp only [nI_p1]
      by_cases e : ou (ctf (mxN (P - 1) i tk) C) P a = ou (ctf (mxN (P - 1) i tk) C) P b
      · rw [if_pos (show ee a = ee b by rw [j3 a ha, j3 b hb, e]), if_pos e, Int32.add_zero]
        exact ih (i + 1) _ _ _ _ _ _ _ _ _ _ _ (by omega) (by omega)
      · rw [if_neg (fun q => ine e (by omega) (by omega) (by rw [← j3 a ha, ← j3 b hb]; exact q)), if_neg e]
        exact ih (i + 1) _ _ _ _ _ _ _ _ _ _ _ (by omega) (by omega)
theorem t_wrong (h : PG P B C tx tk) (x y : Int32) (rp rb : Int32) (p5 r1 r2 r3 r4 r5 : Nat → Int32) (m1 m2 : Nat → Int32) :
    ∃ a v w, f_X5_wrong x y (nI P) (nI B) (nI C) tx p5 rp rb r1 r2 r3 r4 r5 = some (a, v) ∧ f_X6_wrong x y (nI P) (nI C) tx m1 m2 = some (a, w) := by
  obtain ⟨hs, hP1, hP, hB1, hB, hBP, hC1, hC, hk, h4, h5⟩ := id h
  rw [f_X5_wrong, f_X6_wrong, s_has (by omega), s_isPlace hP1 (by omega), s_has (by omega), s_isPlace hP1 (by omega), s6_isWhole _ hP]
  simp only [bd_s, ite10]
  by_cases hx : ∃ j, j < P ∧ x = nI j
  · rw [if_pos hx, if_pos hx]
    by_cases hy : ∃ j, j < P ∧ y = nI j
    · rw [if_pos hy, if_pos hy]
      obtain ⟨a, ha, rfl⟩ := hx
      obtain ⟨b, hb, rfl⟩ := hy
      rcases s5_isWhole tx hP with ⟨hw, e⟩ | ⟨hw, e⟩
      · rw [e, bd_s, bd_s, if_neg (by decide), if_neg (by decide)]
        exact s_wrong h hw ha hb FU 0 0 rp rb p5 r1 r2 r3 r4 r5 m1 m2 (by omega) (FU_ge (by omega))
      · rw [e, bd_s, bd_s, if_pos rfl, if_pos rfl]
        exact ⟨_, _, _, rfl, rfl⟩
    · rw [if_neg hy, if_neg hy]
      exact ⟨_, _, _, rfl, rfl⟩
  · rw [if_neg hx, if_neg hx]
    exact ⟨_, _, _, rfl, rfl⟩
end Q5
