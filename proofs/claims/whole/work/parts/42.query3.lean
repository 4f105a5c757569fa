/-! ===== one place changed ===== -/
def chg (c : Nat → Nat) (p v : Nat) : Nat → Nat := fun i => if i = p then v else c i
theorem chg_okc {c : Nat → Nat} {P p v : Nat} (hc : okc c P) (h1 : 1 ≤ v) (h10 : v ≤ 10) : okc (chg c p v) P := fun i hi => by
  unfold chg
  by_cases e : i = p
  · rw [if_pos e]; exact ⟨h1, h10⟩
  · rw [if_neg e]; exact hc i hi
theorem chg_gt {c : Nat → Nat} {P p v : Nat} (hc : okc c P) (h1 : 1 ≤ v) (h10 : v ≤ 10) : ∀ x, x < P → p < x → ou (chg c p v) P x = ou c P x := by
  apply down
  intro x hx ih hpx
  have h2 := (hc x hx).1
  rw [ou_eq (chg_okc hc h1 h10) hx, ou_eq hc hx]
  have e : chg c p v x = c x := by unfold chg; rw [if_neg (by omega)]
  rw [e]
  by_cases h : x + c x < P
  · rw [if_pos h, if_pos h]; exact ih _ (by omega) h (by omega)
  · rw [if_neg h, if_neg h]
/-- OUT of the changed place itself -/
def ouC (c : Nat → Nat) (P p v : Nat) : Nat := if p + v < P then ou c P (p + v) else p
theorem chg_at {c : Nat → Nat} {P p v : Nat} (hc : okc c P) (hp : p < P) (h1 : 1 ≤ v) (h10 : v ≤ 10) : ou (chg c p v) P p = ouC c P p v := by
  rw [ou_eq (chg_okc hc h1 h10) hp]
  have e : chg c p v p = v := by unfold chg; rw [if_pos rfl]
  rw [e]
  unfold ouC
  by_cases h : p + v < P
  · rw [if_pos h, if_pos h]; exact chg_gt hc h1 h10 _ h (by omega)
  · rw [if_neg h, if_neg h]
theorem chg_ou {c : Nat → Nat} {P p v : Nat} (hc : okc c P) (hp : p < P) (h1 : 1 ≤ v) (h10 : v ≤ 10) : ∀ b, b < P → ou (chg c p v) P b = if rs c P b p = true then ouC c P p v else ou c P b := by
  apply down
  intro b hb ih
  have h2 := (hc b hb).1
  by_cases e : b = p
  · subst e; rw [if_pos (rs_self hc hb)]; exact chg_at hc hb h1 h10
  · rw [ou_eq (chg_okc hc h1 h10) hb, rs_eq hc hb, if_neg e]
    have e2 : chg c p v b = c b := by unfold chg; rw [if_neg e]
    rw [e2]
    by_cases h : b + c b < P
    · rw [if_pos h, if_pos h, ih _ (by omega) h, ou_eq hc hb, if_pos h]
    · rw [if_neg h, if_neg h, if_neg (by decide), ou_eq hc hb, if_neg h]
def mnd (c : Nat → Nat) (P B p v : Nat) : Nat := if ouC c P p v = ou c P p then 0 else cmr c P B p
theorem mnd_ct {c : Nat → Nat} {P B p v : Nat} (hc : okc c P) (hB : B ≤ P) (hp : p < P) (h1 : 1 ≤ v) (h10 : v ≤ 10) : fb_ct (fun b => !decide (ou (chg c p v) P b = ou c P b)) B = mnd c P B p v := by
  unfold mnd cmr
  by_cases e : ouC c P p v = ou c P p
  · rw [if_pos e]
    apply fb_ct_zero.mpr
    intro b hb
    rw [chg_ou hc hp h1 h10 b (by omega)]
    by_cases h : rs c P b p = true
    · rw [if_pos h, e, rs_ou hc b (by omega) p h]; simp
    · rw [if_neg h]; simp
  · rw [if_neg e]
    apply fb_ct_cong
    intro b hb
    rw [chg_ou hc hp h1 h10 b (by omega)]
    by_cases h : rs c P b p = true
    · rw [if_pos h, h]
      have := rs_ou hc b (by omega) p h
      rw [← this, decide_eq_false e]; rfl
    · rw [if_neg h]
      cases h2 : rs c P b p with
      | true => exact absurd h2 h
      | false => simp
section Q3
variable {P B C : Nat} {tx : Nat → Int32} {tk : Nat → Nat}
theorem s5_mindsBy {c : Nat → Nat} {e cm : Nat → Int32} (hc : okc c P) (hP : P ≤ 40) (he : AR e (ou c P) P) (hcm : ∀ q, q < P → cm q = nI (cmr c P B q)) {p v : Nat} (hp : p < P) (h1 : 1 ≤ v) (h10 : v ≤ 10) : f_X2_mindsBy (nI p) (nI v) (nI P) e cm = some (nI (mnd c P B p v)) := by
  have h2 := (ou_in hc p hp).2
  have hend : (if nI P ≤ nI (p + v) then some (nI p) else ck (inB (nI (p + v)) 40) (some (e (ix (nI (p + v)))))) = some (nI (ouC c P p v)) := by
    unfold ouC
    by_cases h : p + v < P
    · rw [if_neg (inle h (by omega)), if_pos h, inB_t (by omega) (by omega), ck_t, ix_nI (by omega), he _ h]
    · rw [if_pos (ile (by omega) (by omega)), if_neg h]
  have h3 : ouC c P p v < P := by
    unfold ouC
    by_cases h : p + v < P
    · rw [if_pos h]; exact (ou_in hc _ h).2
    · rw [if_neg h]; exact hp
  rw [f_X2_mindsBy, f_X2_endBy, nI_add, hend, bd_s, inB_t (show p < 40 by omega) (by decide), ck_t, ix_nI (show p < 2 ^ 31 by omega), he p hp, hcm p hp]
  unfold mnd
  by_cases e2 : ouC c P p v = ou c P p
  · rw [if_pos e2, if_pos (by rw [e2])]; rfl
  · rw [if_neg e2, if_neg (ine e2 (by omega) (by omega))]
theorem s_keepOuts_2 {c : Nat → Nat} {ct : Nat → Int32} (hc : okc c P) (hP : P ≤ 40) (hr : AR ct c P) (hB : B ≤ P) (hB10 : B ≤ 10) : ∀ (n i : Nat) (os : Nat → Int32), i ≤ B → B - i < n → (∀ b, b < i → os b = nI (ou c P b)) →
    ∃ os', f_X6_keepOuts_2 (nI P) (nI B) ct n (nI i) os = some os' ∧ ∀ b, b < B → os' b = nI (ou c P b) := by
  intro n
  induction n with
  | zero => intro i os h1 h2; omega
  | succ n ih =>
    intro i os h1 h2 hb
    rw [f_X6_keepOuts_2]
    by_cases e : i = B
    · subst e; exact ⟨os, by rw [if_pos (ile (Nat.le_refl _) (by omega))], hb⟩
    · rw [if_neg (inle (by omega) (by omega)), s_outOf' hc hP hr (show i < P by omega), bd_s, inB_t (by omega) (by omega), ck_t, ix_nI (by omega), nI_p1]
      refine ih (i + 1) _ (by omega) (by omega) (fun b hb2 => ?_)
      rw [upd_at]
      by_cases e2 : b = i
      · rw [if_pos e2, e2]
      · rw [if_neg e2]; exact hb b (by omega)
theorem s_keepOuts {c : Nat → Nat} {ct : Nat → Int32} (hc : okc c P) (hP : P ≤ 40) (hr : AR ct c P) (hB : B ≤ P) (hB10 : B ≤ 10) (os : Nat → Int32) :
    ∃ os', f_X6_keepOuts (nI P) (nI B) os ct = some os' ∧ ∀ b, b < B → os' b = nI (ou c P b) :=
  s_keepOuts_2 hc hP hr hB hB10 FU 0 os (Nat.zero_le _) (FU_ge (by omega)) (fun b h => by omega)
theorem s_mindsBy_20 {c c' : Nat → Nat} {ct os : Nat → Int32} (hc : okc c P) (hc' : okc c' P) (hP : P ≤ 40) (hr : AR ct c' P) (hB : B ≤ P) (hB10 : B ≤ 10) (ho : ∀ b, b < B → os b = nI (ou c P b)) {p : Nat} (hp : p < P) (w : Int32) : ∀ (n i : Nat), i ≤ B → B - i < n →
    f_X6_mindsBy_20 (nI p) (nI P) (nI B) os n w (nI (fb_ct (fun b => !decide (ou c' P b = ou c P b)) i)) (nI i) ct = some (nI (fb_ct (fun b => !decide (ou c' P b = ou c P b)) B), upd ct p w) := by
  intro n
  induction n with
  | zero => intro i h1 h2; omega
  | succ n ih =>
    intro i h1 h2
    rw [f_X6_mindsBy_20]
    by_cases e : i = B
    · subst e; rw [if_pos (ile (Nat.le_refl _) (by omega)), inB_t (by omega) (by omega), ck_t, ix_nI (by omega)]
    · have g1 := (ou_in hc i (by omega)).2
      have g2 := (ou_in hc' i (by omega)).2
      have ih' := ih (i + 1) (by omega) (by omega)
      have e1 : fb_ct (fun b => !decide (ou c' P b = ou c P b)) (i + 1) = fb_ct (fun b => !decide (ou c' P b = ou c P b)) i + (if (!decide (ou c' P i = ou c P i)) = true then 1 else 0) := fb_ct_succ _ _
      rw [if_neg (inle (by omega) (by omega)), s_outOf' hc' hP hr (show i < P by omega), bd_s, inB_t (by omega) (by omega), ck_t, ix_nI (by omega), ho i (by omega)]
      simp only [nI_p1]
      by_cases h : ou c' P i = ou c P i
      · have e3 : fb_ct (fun b => !decide (ou c' P b = ou c P b)) (i + 1) = fb_ct (fun b => !decide (ou c' P b = ou c P b)) i := by rw [e1]; simp [h]
        rw [e3] at ih'
        rw [if_pos (by rw [h]), show nI (fb_ct (fun b => !decide (ou c' P b = ou c P b)) i) + (0 : Int32) = nI (fb_ct (fun b => !decide (ou c' P b = ou c P b)) i) from nI_add _ 0]; exact ih'
      · have e3 : fb_ct (fun b => !decide (ou c' P b = ou c P b)) (i + 1) = fb_ct (fun b => !decide (ou c' P b = ou c P b)) i + 1 := by rw [e1]; simp [h]
        rw [e3] at ih'
        rw [if_neg (ine h (by omega) (by omega))]; exact ih'
theorem s6_mindsBy {c : Nat → Nat} {ct os : Nat → Int32} (hc : okc c P) (hP : P ≤ 40) (hr : AR ct c P) (hB : B ≤ P) (hB10 : B ≤ 10) (ho : ∀ b, b < B → os b = nI (ou c P b)) {p v : Nat} (hp : p < P) (h1 : 1 ≤ v) (h10 : v ≤ 10) :
    ∃ ct', f_X6_mindsBy (nI p) (nI v) (nI P) (nI B) ct os = some (nI (mnd c P B p v), ct') ∧ AR ct' c P := by
  have hr' : AR (upd ct p (nI v)) (chg c p v) P := fun i hi => by
    rw [upd_at]; unfold chg
    by_cases e : i = p
    · rw [if_pos e, if_pos e]
    · rw [if_neg e, if_neg e]; exact hr i hi
  have := s_mindsBy_20 hc (chg_okc (p := p) hc h1 h10) hP hr' hB hB10 ho hp (ct p) FU 0 (Nat.zero_le _) (FU_ge (by omega))
  rw [mnd_ct hc hB hp h1 h10] at this
  refine ⟨upd (upd ct p (nI v)) p (ct p), ?_, fun i hi => ?_⟩
  · rw [f_X6_mindsBy, inB_t (by omega) (by omega), ck_t, ix_nI (by omega)]; exact this
  · rw [upd_at, upd_at]
    by_cases e : i = p
    · rw [if_pos e, e]; exact hr p hp
    · rw [if_neg e, if_neg e]; exact hr i hi
theorem t_minds (h : PG P B C tx tk) (x y : Int32) (rp rb : Int32) (r1 r2 r3 r4 r5 : Nat → Int32) (op : Int32) (m1 m2 m3 : Nat → Int32) :
    ∃ a v w, f_X5_minds x y (nI P) (nI B) (nI C) tx rp rb r1 r2 r3 r4 r5 = some (a, v) ∧ f_X6_minds x y (nI P) (nI B) (nI C) op tx m1 m2 m3 = some (a, w) := by
  obtain ⟨hs, hP1, hP, hB1, hB, hBP, hC1, hC, hk, h4, h5⟩ := id h
  rw [f_X5_minds, f_X6_minds, s_has (by omega), s_isPlace hP1 (by omega), s_in, s_isCount, s6_isWhole _ hP]
  simp only [bd_s, ite10]
  by_cases hx : ∃ j, j < P ∧ x = nI j
  · rw [if_pos hx, if_pos hx]
    obtain ⟨p, hp, rfl⟩ := hx
    by_cases hy : (1 : Int32) ≤ y ∧ y ≤ 10
    · rw [if_pos hy, if_pos hy]
      obtain ⟨v, hv10, rfl⟩ := nI_of2 (n := 10) (M := 10) rfl (fun q => nle_of_lt (fa_trans q (show (0 : Int32) ≤ 1 by decide)) hy.1) hy.2
      have hv1 : 1 ≤ v := by
        have := hy.1
        rw [q_1, nI_leI (by omega) (by omega)] at this; exact this
      rcases s5_isWhole tx hP with ⟨hw, e⟩ | ⟨hw, e⟩
      · have hc := h.okc hw hC1 hC
        obtain ⟨ct, ee, cm, ld, ch, h1, h2, h3, h6⟩ := s_follow hs.p hP hP1 hBP hB hc r1 r2 r3 r4 r5
        rw [e, bd_s, bd_s, if_neg (by decide), if_neg (by decide), h1, bd_s, s_lay hs.p hP hC (by rw [okc_zl hc]; exact Nat.zero_le _), bd_s]
        dsimp only
        obtain ⟨os, k1, k2⟩ := s_keepOuts hc hP (AR_fill (ctf tk C) m1 P) hBP hB m3
        obtain ⟨ct', k3, k4⟩ := s6_mindsBy hc hP (AR_fill (ctf tk C) m1 P) hBP hB k2 hp hv1 hv10
        rw [s5_mindsBy hc hP h3 (fun q hq => (h6 q hq).1) hp hv1 hv10, bd_s, k1, bd_s, k3, bd_s]
        exact ⟨_, _, _, rfl, rfl⟩
      · rw [e, bd_s, bd_s, if_pos rfl, if_pos rfl]
        exact ⟨_, _, _, rfl, rfl⟩
    · rw [if_neg hy, if_neg hy]
      exact ⟨_, _, _, rfl, rfl⟩
  · rw [if_neg hx, if_neg hx]
    exact ⟨_, _, _, rfl, rfl⟩
theorem s_one_in {c : Nat → Nat} {e cm : Nat → Int32} (hc : okc c P) (hP : P ≤ 40) (he : AR e (ou c P) P) (hcm : ∀ q, q < P → cm q = nI (cmr c P B q)) (hB : B ≤ P) (hB10 : B ≤ 10) {os : Nat → Int32} (ho : ∀ b, b < B → os b = nI (ou c P b))
    {p : Nat} (hp : p < P) (ct5 ld ch on : Nat → Int32) (op : Int32) (K : Int32 → Int32 → Int32 → Int32 → Int32 → Int32 → (Nat → Int32) → (Nat → Int32) → (Nat → Int32) → (Nat → Int32) → (Nat → Int32) → Option (Int32 × Int32 × Int32 × (Nat → Int32) × (Nat → Int32) × (Nat → Int32) × (Nat → Int32) × (Nat → Int32)))
    (K' : Int32 → Int32 → Int32 → Int32 → Int32 → (Nat → Int32) → (Nat → Int32) → (Nat → Int32) → Option (Int32 × Int32 × (Nat → Int32) × (Nat → Int32) × (Nat → Int32)))
    (hK : ∀ (v2 v3 v4 : Int32) (ct : Nat → Int32), AR ct c P → ∃ a v w, K v2 v3 v4 (nI (p + 1)) (nI P) (nI B) ct5 e cm ld ch = some (a, v) ∧ K' v2 v3 v4 (nI (p + 1)) op ct on os = some (a, w)) :
    ∀ (n i : Nat) (v2 v3 v4 : Int32) (ct : Nat → Int32), 1 ≤ i → i ≤ 11 → 11 - i < n → AR ct c P →
      ∃ a v w, f_X5_one_77 K n v2 v3 v4 (nI p) (nI i) (nI P) (nI B) ct5 e cm ld ch = some (a, v) ∧ f_X6_one_58 (nI P) (nI B) K' n v2 v3 v4 (nI p) (nI i) op ct on os = some (a, w) := by
  intro n
  induction n with
  | zero => intro i v2 v3 v4 ct h0 h1 h2; omega
  | succ n ih =>
    intro i v2 v3 v4 ct h0 h1 h2 hr
    rw [f_X5_one_77, f_X6_one_58]
    by_cases e0 : i = 11
    · subst e0
      rw [q_10, if_pos (ilt (by omega) (by omega)), if_pos (ilt (by omega) (by omega)), nI_p1]
      exact hK v2 v3 v4 ct hr
    · obtain ⟨ct', k1, k2⟩ := s6_mindsBy hc hP hr hB hB10 ho hp h0 (show i ≤ 10 by omega)
      rw [q_10, if_neg (inlt (by omega) (by omega)), if_neg (inlt (by omega) (by omega)), s5_mindsBy hc hP he hcm hp h0 (show i ≤ 10 by omega), bd_s, k1, bd_s]
      dsimp only
      simp only [nI_p1]
      by_cases h3 : nI (mnd c P B p i) ≤ v2
      · rw [if_pos h3, if_pos h3]; exact ih (i + 1) _ _ _ _ (by omega) (by omega) (by omega) k2
      · rw [if_neg h3, if_neg h3]; exact ih (i + 1) _ _ _ _ (by omega) (by omega) (by omega) k2
theorem s_one_out {c : Nat → Nat} {e cm : Nat → Int32} (hc : okc c P) (hP : P ≤ 40) (he : AR e (ou c P) P) (hcm : ∀ q, q < P → cm q = nI (cmr c P B q)) (hB : B ≤ P) (hB10 : B ≤ 10) {os : Nat → Int32} (ho : ∀ b, b < B → os b = nI (ou c P b))
    (x : Int32) (ct5 ld ch on : Nat → Int32) (op : Int32) : ∀ (n i : Nat) (v2 v3 v4 : Int32) (ct : Nat → Int32), i ≤ P → P - i < n → AR ct c P →
      ∃ a v w, f_X5_one_62 x n v2 v3 v4 (nI i) (nI P) (nI B) ct5 e cm ld ch = some (a, v) ∧ f_X6_one_46 x (nI P) (nI B) n v2 v3 v4 (nI i) op ct on os = some (a, w) := by
  intro n
  induction n with
  | zero => intro i v2 v3 v4 ct h1 h2; omega
  | succ n ih =>
    intro i v2 v3 v4 ct h1 h2 hr
    rw [f_X5_one_62, f_X6_one_46]
    by_cases e0 : i = P
    · subst e0
      rw [if_pos (ile (Nat.le_refl _) (by omega)), if_pos (ile (Nat.le_refl _) (by omega))]
      by_cases x0 : x = 0
      · rw [if_pos x0, if_pos x0]; exact ⟨_, _, _, rfl, rfl⟩
      · rw [if_neg x0, if_neg x0]
        by_cases x1 : x = 1
        · rw [if_pos x1, if_pos x1]; exact ⟨_, _, _, rfl, rfl⟩
        · rw [if_neg x1, if_neg x1]; exact ⟨_, _, _, rfl, rfl⟩
    · rw [if_neg (inle (by omega) (by omega)), if_neg (inle (by omega) (by omega))]
      exact s_one_in hc hP he hcm hB hB10 ho (show i < P by omega) ct5 ld ch on op _ _ (fun v2 v3 v4 ct hr => ih (i + 1) v2 v3 v4 ct (by omega) (by omega) hr) FU 1 v2 v3 v4 ct (by omega) (by omega) (FU_ge (by omega)) hr
theorem t_one (h : PG P B C tx tk) (x : Int32) (rp rb : Int32) (r1 r2 r3 r4 r5 : Nat → Int32) (op : Int32) (m1 m2 m3 : Nat → Int32) :
    ∃ a v w, f_X5_one x (nI P) (nI B) (nI C) tx rp rb r1 r2 r3 r4 r5 = some (a, v) ∧ f_X6_one x (nI P) (nI B) (nI C) op tx m1 m2 m3 = some (a, w) := by
  obtain ⟨hs, hP1, hP, hB1, hB, hBP, hC1, hC, hk, h4, h5⟩ := id h
  rw [f_X5_one, f_X6_one, s_in, s6_isWhole _ hP]
  simp only [bd_s, ite10]
  rw [q_2]
  rcases in_cases x (show 2 < 2 ^ 31 by decide) with ⟨g1, g2, g3, g4⟩ | ⟨g1, g2⟩
  · rw [if_neg g3, if_pos g2, if_pos ⟨g1, g2⟩]
    rcases s5_isWhole tx hP with ⟨hw, e⟩ | ⟨hw, e⟩
    · have hc := h.okc hw hC1 hC
      obtain ⟨ct, ee, cm, ld, ch, h1, h2, h3, h6⟩ := s_follow hs.p hP hP1 hBP hB hc r1 r2 r3 r4 r5
      rw [e, bd_s, bd_s, if_neg (by decide), if_neg (by decide), h1, bd_s, s_lay hs.p hP hC (by rw [okc_zl hc]; exact Nat.zero_le _), bd_s]
      dsimp only
      obtain ⟨os, k1, k2⟩ := s_keepOuts hc hP (AR_fill (ctf tk C) m1 P) hBP hB m3
      rw [k1, bd_s]
      exact s_one_out hc hP h3 (fun q hq => (h6 q hq).1) hBP hB k2 x ct ld ch _ _ FU 0 _ _ _ _ (Nat.zero_le _) (FU_ge (by omega)) (AR_fill (ctf tk C) m1 P)
    · rw [e, bd_s, bd_s, if_pos rfl, if_pos rfl]
      exact ⟨_, _, _, rfl, rfl⟩
  · rw [if_neg g1]
    rcases g2 with g2 | ⟨g2, g3⟩
    · rw [if_pos g2]; exact ⟨_, _, _, rfl, rfl⟩
    · rw [if_neg g2, if_neg g3]; exact ⟨_, _, _, rfl, rfl⟩
end Q3
