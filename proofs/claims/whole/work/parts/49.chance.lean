/-! ===== likely and all: both sides ===== -/
theorem zl_cnt (c : Nat → Nat) : ∀ i, (zl c i).length = fb_ct (fun j => decide (c j = 0)) i
  | 0 => rfl
  | i + 1 => by
    rw [zl_succ, List.length_append, zl_cnt c i, fb_ct_succ]
    by_cases e : c i = 0
    · rw [if_pos e, decide_eq_true e, if_pos rfl]; rfl
    · rw [if_neg e, decide_eq_false e, if_neg (by decide)]; rfl
section CH
variable {P B C : Nat} {tx : Nat → Int32} {tk : Nat → Nat}
theorem PG.zl42 (h : PG P B C tx tk) {C' : Nat} (h1 : 1 ≤ C') : (zl (ctf tk C') P).length = cnS tx 42 P + cnS tx 63 P := by
  obtain ⟨hs, _, _, _, _, _, _, _, hk, _, _⟩ := h
  rw [zl_cnt, q_42, q_63, cnS_tk hs (by decide), cnS_tk hs (by decide), ← fb_ct_or]
  · apply fb_ct_cong
    intro j hj
    have := cOf_pos (hk j hj) h1
    show decide (cOf (tk j) C' = 0) = _
    by_cases e : cOf (tk j) C' = 0
    · rw [decide_eq_true e]
      rcases this.mp e with z | z
      · rw [decide_eq_true z]; rfl
      · rw [decide_eq_true z, Bool.or_true]
    · rw [decide_eq_false e, decide_eq_false (fun z => e (this.mpr (Or.inl z))), decide_eq_false (fun z => e (this.mpr (Or.inr z)))]; rfl
  · intro k _ ⟨a, b⟩
    have := of_decide_eq_true a
    have := of_decide_eq_true b
    omega
theorem WG.low {wt : Nat → Int32} {w : Nat → Nat} (h : WG wt w) {k : Nat} (hk : k ≤ 5) : 0 < SW w ^ k ∧ SW w ^ k < 2 ^ 18 := by
  refine ⟨Nat.pow_pos (by have := h.2.1; omega), ?_⟩
  refine Nat.lt_of_le_of_lt (Nat.pow_le_pow_left h.2.2 k) ?_
  exact Nat.lt_of_le_of_lt (Nat.pow_le_pow_right (by decide) hk) (by decide)
/-- the class's chance that all of a set of places come out at one place -/
theorem s_chance (h : PG P B C tx tk) {wt : Nat → Int32} {w : Nat → Nat} (hw : WG wt w) {C' : Nat} (hC1 : 1 ≤ C') (hC : C' ≤ 10) (hz : (zl (ctf tk C') P).length ≤ 5) {st : Nat} (hst : st < 2 ^ 63) (bg p2 : Int32) (r1 : Nat → Int32) (nw nx : Nat → Int64) :
    ∃ v, f_X5_chanceOfOneStream (lN st) p2 (nI P) bg (nI C') tx r1 wt nw nx = Option.bind (f_X5_lowestTerms (lN (nsw (fun x => okb x P st P (st % 1024)) w (zl (ctf tk C') P) (ctf tk C'))) (lN (SW w ^ (zl (ctf tk C') P).length)) p2) (fun r => some (r, v)) := by
  obtain ⟨hs, hP1, hP, hB1, hB, hBP, _, _, hk, h4, h5⟩ := id h
  rw [f_X5_chanceOfOneStream, s_read hs.p hP, bd_s, s5_weightOfAll hw.1, bd_s]
  dsimp only
  obtain ⟨n1, n2, k⟩ := s_reckon (c := ctf tk C') (w := w) (W := SW w) (st := st) hP (AR_fill (ctf tk C') r1 P) (fun i _ => cOf_le hC) hw.2.2 rfl hst hw.1 (fun p hp => by
    rw [Wb_pow]
    have h1 : (zl (ctf tk C') p).length ≤ 5 := by
      rw [zl_cnt] at hz ⊢
      exact Nat.le_trans (fb_ct_mono _ hp) hz
    exact Nat.lt_trans (hw.low h1).2 (by decide)) nw nx
  rw [k, bd_s]
  dsimp only
  rw [TT_nsw (c' := ctf tk C') rfl P _ (Nat.le_refl _) (fun _ _ _ _ => rfl), Wt_pow, zf_all]
  exact ⟨_, rfl⟩
theorem s_isPart (x : Int32) : f_X5_isPart x = some (if (0 : Int32) ≤ x ∧ x ≤ 1 then 1 else 0) := by
  rw [f_X5_isPart]
  rcases in_cases x (n := 1) (by decide) with ⟨a, b, _, j, hj, rfl⟩ | ⟨a, b⟩
  · have hb : nI j ≤ (1 : Int32) := b
    have hab : (0 : Int32) ≤ nI j ∧ nI j ≤ (1 : Int32) := ⟨a, hb⟩
    by_cases e : j = 0
    · subst e; rfl
    · have : j = 1 := by omega
      subst this; rfl
  · have ha : ¬ ((0 : Int32) ≤ x ∧ x ≤ 1) := a
    rw [if_neg ha, if_neg (fun e => ha (by rw [e]; decide)), if_neg (fun e => ha (by rw [e]; decide))]
/-- one way's part of the sum -/
def FF (φ : (Nat → Nat) → Bool) (w c : Nat → Nat) (zs : List Nat) : Nat → Nat → Nat := fun s code => s + 1 * prd w (dgt zs.length code) * (if φ (asg c zs (dgt zs.length code)) = true then 1 else 0)
theorem FF_all (φ : (Nat → Nat) → Bool) (w c : Nat → Nat) (zs : List Nat) : itr (FF φ w c zs) (10 ^ zs.length) 0 = nsw φ w zs c := by
  have := codes_fold (fun s own c => s + own * (if φ c = true then 1 else 0)) w zs c 1 0
  rw [nfold_nsw, Nat.zero_add, Nat.one_mul] at this
  exact this
theorem nI_le0 {n : Nat} (h : n < 2 ^ 31) : nI n ≤ 0 ↔ n = 0 := by
  constructor
  · intro h2
    exact Classical.byContradiction (fun e => inle (show 0 < n by omega) h (by rw [q_0] at h2; exact h2))
  · intro h2; subst h2; decide
theorem s_likely_60 {a b : Nat} (hP : P ≤ 40) {c w : Nat → Nat} {wt on : Nat → Int32} (hw : WG wt w) (hz : (zl c P).length ≤ 5) (hc : ∀ q, q < P → q ∉ zl c P → 1 ≤ c q ∧ c q ≤ 10) (hon : ∀ (i o : Nat), (zl c P)[i]? = some o → on i = nI o) (ha : a < P) (hb : b < P) (p3 : Int32) :
    ∀ (n i : Nat) (ct : Nat → Int32), i ≤ 10 ^ (zl c P).length → 10 ^ (zl c P).length - i < n → (∀ q, q < P → q ∉ zl c P → ct q = nI (c q)) →
    ∃ ct', f_X6_likely_60 (nI a) (nI b) p3 (nI P) wt n (lN (itr (FF (fun x => decide (ou x P a = ou x P b)) w c (zl c P)) i 0)) (nI i) (nI (zl c P).length) ct on
      = Option.bind (f_X6_term (lN (nsw (fun x => decide (ou x P a = ou x P b)) w (zl c P) c)) (lN (SW w ^ (zl c P).length)) p3) (fun r => some (r, nI (zl c P).length, ct', on)) := by
  have h10 := pow5 hz
  intro n
  induction n with
  | zero => intro i ct h1 h2; omega
  | succ n ih =>
    intro i ct h1 h2 hct
    rw [f_X6_likely_60, s_codes hz, bd_s]
    by_cases e : i = 10 ^ (zl c P).length
    · rw [if_pos (ile (by omega) (by omega)), s_wholeWeight hw hz, bd_s, e, FF_all]
      exact ⟨ct, rfl⟩
    · obtain ⟨ct', k1, k2⟩ := s_writeIn (zs := zl c P) (on := on) (wt := wt) (ct := ct) (w := w) (c := c) (code := i) hP rfl hz (fun o ho => (zl_mem.mp ho).1) (zl_nd c P) hon hw.1 (by omega) hct
      have hpr := prd_dgt_le (w := w) (fun d d1 d2 => (hw.1 d d1 d2).2) hz i
      have hoc : okc (asg c (zl c P) (dgt (zl c P).length i)) P := asg_okc (c := c) (zl c P) _ c (dgt_len _ _).symm hc (dgt_in _ _)
      have hct' : ∀ q, q < P → q ∉ zl c P → ct' q = nI (c q) := fun q hq hn => by rw [k2 q hq, asg_out _ _ _ _ hn]
      rw [if_neg (inle (by omega) (by omega)), k1, bd_s]
      dsimp only
      have hst : itr (FF (fun x => decide (ou x P a = ou x P b)) w c (zl c P)) (i + 1) 0 = itr (FF (fun x => decide (ou x P a = ou x P b)) w c (zl c P)) i 0 + prd w (dgt (zl c P).length i) * (if decide (ou (asg c (zl c P) (dgt (zl c P).length i)) P a = ou (asg c (zl c P) (dgt (zl c P).length i)) P b) = true then 1 else 0) := by
        rw [itr, FF, Nat.one_mul]
      have ih' := ih (i + 1) ct' (by omega) (by omega) hct'
      rw [hst] at ih'
      have z64 : ∀ m : Nat, lN m + (0 : Int64) = lN (m + 0) := fun m => lN_add m 0
      rw [nI_p1, z64]
      by_cases e2 : prd w (dgt (zl c P).length i) = 0
      · rw [e2, Nat.zero_mul] at ih'
        rw [if_pos ((nI_le0 (by omega)).mpr e2)]
        exact ih'
      · rw [if_neg (fun q => e2 ((nI_le0 (by omega)).mp q)), f_X6_meetOf]
        rcases s_meetOf hoc hP k2 FU a b ha hb (Nat.le_of_lt (FU_ge (by omega))) with ⟨j1, j2⟩ | ⟨z, j1, j2, j3, j4, j5⟩
        · rw [j1, bd_s, if_pos (by decide)]
          rw [if_neg (fun q => j2 (of_decide_eq_true q)), Nat.mul_zero] at ih'
          exact ih'
        · have heq := (rs_ou hoc a ha z j3).symm.trans (rs_ou hoc b hb z j4)
          rw [j1, bd_s, if_neg (nI_pos (by omega)), nI_l (by omega), lN_add]
          rw [if_pos (decide_eq_true heq), Nat.mul_one] at ih'
          exact ih'
theorem t_likely (h : PG P B C tx tk) {wt : Nat → Int32} {w : Nat → Nat} (hw : WG wt w) (x y z : Int32) (rp rb : Int32) (r1 : Nat → Int32) (l1 l2 : Int64) (nw nx : Nat → Int64) (op : Int32) (m1 m2 : Nat → Int32) :
    ∃ a v u, f_X5_likely x y z (nI P) (nI B) (nI C) tx rp rb r1 l1 l2 wt nw nx = some (a, v) ∧ f_X6_likely x y z (nI P) (nI C) op tx m1 m2 wt = some (a, u) := by
  obtain ⟨hs, hP1, hP, hB1, hB, hBP, hC1, hC, hk, h4, h5⟩ := id h
  rw [f_X5_likely, f_X6_likely, s_has (by omega), s_isPlace hP1 (by omega), s_has (by omega), s_isPlace hP1 (by omega), s_isPart, s_in, s_howMany _ _ hP, s_many _ _ hP]
  simp only [bd_s, ite10]
  by_cases hx : ∃ j, j < P ∧ x = nI j
  · rw [if_pos hx, if_pos hx]
    by_cases hy : ∃ j, j < P ∧ y = nI j
    · rw [if_pos hy, if_pos hy]
      by_cases hz : (0 : Int32) ≤ z ∧ z ≤ 1
      · rw [if_pos hz, if_pos hz]
        by_cases h42 : cnS tx 42 P = 0
        · rw [if_pos ((nI_le0 (by omega)).mpr h42), if_pos ((nI_le0 (by omega)).mpr h42)]
          obtain ⟨a, ha, rfl⟩ := hx
          obtain ⟨b, hb, rfl⟩ := hy
          have hl : (zl (ctf tk C) P).length ≤ 5 := by rw [h.zl42 hC1]; omega
          have hst : (2 : Nat) ^ a ||| 2 ^ b < 2 ^ 40 := Nat.or_lt_two_pow (Nat.pow_lt_pow_right (by decide) (by omega)) (Nat.pow_lt_pow_right (by decide) (by omega))
          have hcq : ∀ q, q < P → q ∉ zl (ctf tk C) P → 1 ≤ ctf tk C q ∧ ctf tk C q ≤ 10 := fun q hq hn => by
            refine ⟨?_, cOf_le hC⟩
            rcases Nat.eq_zero_or_pos (ctf tk C q) with e | e
            · exact absurd (zl_mem.mpr ⟨hq, e⟩) hn
            · exact e
          obtain ⟨v, k1⟩ := s_chance h hw hC1 hC hl (st := 2 ^ a ||| 2 ^ b) (Nat.lt_trans hst (by decide)) (nI B) z r1 nw nx
          obtain ⟨ct', k2⟩ := s_likely_60 hP hw hl hcq (opf_at (o0 := m2)) ha hb z FU 0 (fa_fill (fun j => nI (ctf tk C j)) m1 P) (Nat.zero_le _) (FU_ge (by have := pow5 hl; omega)) (fun q hq _ => AR_fill _ _ _ q hq)
          have k2' : f_X6_likely_60 (nI a) (nI b) z (nI P) wt FU (0 : Int64) (0 : Int32) (nI (zl (ctf tk C) P).length) (fa_fill (fun j => nI (ctf tk C j)) m1 P) (opf (ctf tk C) m2 P) = _ := k2
          rw [shl_1 (by omega), shl_1 (by omega), fb_orL, k1, s_lay hs.p hP hC hl, bd_s]
          dsimp only
          rw [k2']
          have hsame : nsw (fun x => okb x P (2 ^ a ||| 2 ^ b) P ((2 ^ a ||| 2 ^ b) % 1024)) w (zl (ctf tk C) P) (ctf tk C) = nsw (fun x => decide (ou x P a = ou x P b)) w (zl (ctf tk C) P) (ctf tk C) := by
            apply nsw_cong (P := P) _ _ hcq
            intro c' hc'
            have hbit : ∀ q, (2 ^ a ||| 2 ^ b).testBit q = true ↔ q = a ∨ q = b := fun q => by
              rw [Nat.testBit_or, tb_pow, tb_pow, Bool.or_eq_true, decide_eq_true_eq, decide_eq_true_eq]
            have := okb_start (st := 2 ^ a ||| 2 ^ b) hc' ⟨a, (hbit a).mpr (Or.inl rfl)⟩ (fun q hq => by
              rcases (hbit q).mp hq with e | e
              · omega
              · omega)
            rw [Bool.eq_iff_iff, this, decide_eq_true_eq]
            constructor
            · intro h1; exact h1 a b ((hbit a).mpr (Or.inl rfl)) ((hbit b).mpr (Or.inr rfl))
            · intro h1 p q hp hq
              rcases (hbit p).mp hp with e | e <;> rcases (hbit q).mp hq with e2 | e2 <;> subst e <;> subst e2
              · rfl
              · exact h1
              · exact h1.symm
              · rfl
          have hlow := hw.low hl
          have hup : nsw (fun x => decide (ou x P a = ou x P b)) w (zl (ctf tk C) P) (ctf tk C) < 2 ^ 18 := Nat.lt_of_le_of_lt (nsw_le _ _) hlow.2
          rw [hsame]
          obtain ⟨r, g1, g2⟩ := s_frac hup hlow.2 hlow.1 z
          rw [g1, g2, bd_s, bd_s, bd_s]
          exact ⟨_, _, _, rfl, rfl⟩
        · rw [if_neg (fun q => h42 ((nI_le0 (by omega)).mp q)), if_neg (fun q => h42 ((nI_le0 (by omega)).mp q))]
          exact ⟨_, _, _, rfl, rfl⟩
      · rw [if_neg hz, if_neg hz]; exact ⟨_, _, _, rfl, rfl⟩
    · rw [if_neg hy, if_neg hy]; exact ⟨_, _, _, rfl, rfl⟩
  · rw [if_neg hx, if_neg hx]; exact ⟨_, _, _, rfl, rfl⟩
/-- one stream: every beginning comes out at one place -/
theorem strs_one {c : Nat → Nat} (hc : okc c P) (hP : P ≤ 40) (hB1 : 1 ≤ B) (hBP : B ≤ P) : strs c P B = 1 ↔ ∀ x y, x < B → y < B → ou c P x = ou c P y := by
  unfold strs
  rw [ct_any_new (fun b => ou c P b) 64 B (fun b hb => by have := (ou_in hc b (by omega)).2; omega)]
  obtain ⟨B', rfl⟩ : ∃ B', B = 1 + B' := ⟨B - 1, by omega⟩
  rw [fb_ct_split]
  have h1 : fb_ct (fun p => !(List.range p).any (fun b => decide (ou c P b = ou c P p))) 1 = 1 := rfl
  rw [h1]
  constructor
  · intro h2
    have h3 : fb_ct (fun k => !(List.range (1 + k)).any (fun b => decide (ou c P b = ou c P (1 + k)))) B' = 0 := by omega
    have h4 := fb_ct_zero.mp h3
    have h5 : ∀ n, n < 1 + B' → ou c P n = ou c P 0 := by
      intro n
      induction n using Nat.strongRecOn with
      | ind n ih =>
        intro hn
        rcases Nat.eq_zero_or_pos n with e | e
        · rw [e]
        · have h6 := h4 (n - 1) (by omega)
          rw [show 1 + (n - 1) = n by omega, Bool.not_eq_false', List.any_eq_true] at h6
          obtain ⟨b, hb, hb2⟩ := h6
          have hb' := List.mem_range.mp hb
          rw [← of_decide_eq_true hb2]
          exact ih b hb' (by omega)
    intro x y hx hy
    rw [h5 x hx, h5 y hy]
  · intro h2
    have h3 : fb_ct (fun k => !(List.range (1 + k)).any (fun b => decide (ou c P b = ou c P (1 + k)))) B' = 0 := by
      apply fb_ct_zero.mpr
      intro k hk
      rw [Bool.not_eq_false', List.any_eq_true]
      exact ⟨0, List.mem_range.mpr (by omega), decide_eq_true (h2 _ _ (by omega) (by omega))⟩
    rw [h3]
theorem s_all_39 (hP : P ≤ 40) (hBP : B ≤ P) {c w : Nat → Nat} {wt on : Nat → Int32} (hw : WG wt w) (hz : (zl c P).length ≤ 5) (hc : ∀ q, q < P → q ∉ zl c P → 1 ≤ c q ∧ c q ≤ 10) (hon : ∀ (i o : Nat), (zl c P)[i]? = some o → on i = nI o) (p3 : Int32) :
    ∀ (n i : Nat) (ct : Nat → Int32), i ≤ 10 ^ (zl c P).length → 10 ^ (zl c P).length - i < n → (∀ q, q < P → q ∉ zl c P → ct q = nI (c q)) →
    ∃ ct', f_X6_all_39 p3 (nI P) (nI B) wt n (lN (itr (FF (fun x => decide (strs x P B = 1)) w c (zl c P)) i 0)) (nI i) (nI (zl c P).length) ct on
      = Option.bind (f_X6_term (lN (nsw (fun x => decide (strs x P B = 1)) w (zl c P) c)) (lN (SW w ^ (zl c P).length)) p3) (fun r => some (r, nI (zl c P).length, ct', on)) := by
  have h10 := pow5 hz
  intro n
  induction n with
  | zero => intro i ct h1 h2; omega
  | succ n ih =>
    intro i ct h1 h2 hct
    rw [f_X6_all_39, s_codes hz, bd_s]
    by_cases e : i = 10 ^ (zl c P).length
    · rw [if_pos (ile (by omega) (by omega)), s_wholeWeight hw hz, bd_s, e, FF_all]
      exact ⟨ct, rfl⟩
    · obtain ⟨ct', k1, k2⟩ := s_writeIn (zs := zl c P) (on := on) (wt := wt) (ct := ct) (w := w) (c := c) (code := i) hP rfl hz (fun o ho => (zl_mem.mp ho).1) (zl_nd c P) hon hw.1 (by omega) hct
      have hpr := prd_dgt_le (w := w) (fun d d1 d2 => (hw.1 d d1 d2).2) hz i
      have hoc : okc (asg c (zl c P) (dgt (zl c P).length i)) P := asg_okc (c := c) (zl c P) _ c (dgt_len _ _).symm hc (dgt_in _ _)
      have hct' : ∀ q, q < P → q ∉ zl c P → ct' q = nI (c q) := fun q hq hn => by rw [k2 q hq, asg_out _ _ _ _ hn]
      rw [if_neg (inle (by omega) (by omega)), k1, bd_s]
      dsimp only
      have hst : itr (FF (fun x => decide (strs x P B = 1)) w c (zl c P)) (i + 1) 0 = itr (FF (fun x => decide (strs x P B = 1)) w c (zl c P)) i 0 + prd w (dgt (zl c P).length i) * (if decide (strs (asg c (zl c P) (dgt (zl c P).length i)) P B = 1) = true then 1 else 0) := by
        rw [itr, FF, Nat.one_mul]
      have ih' := ih (i + 1) ct' (by omega) (by omega) hct'
      rw [hst] at ih'
      have z64 : ∀ m : Nat, lN m + (0 : Int64) = lN (m + 0) := fun m => lN_add m 0
      rw [nI_p1, z64]
      by_cases e2 : prd w (dgt (zl c P).length i) = 0
      · rw [e2, Nat.zero_mul] at ih'
        rw [if_pos ((nI_le0 (by omega)).mpr e2)]
        exact ih'
      · have hs64 : strs (asg c (zl c P) (dgt (zl c P).length i)) P B ≤ 64 := fb_ct_le _ _
        rw [if_neg (fun q => e2 ((nI_le0 (by omega)).mp q)), s_outsOfAll hoc hP k2 hBP, bd_s]
        by_cases e3 : strs (asg c (zl c P) (dgt (zl c P).length i)) P B = 1
        · rw [if_pos (by rw [e3]; rfl), nI_l (by omega), lN_add]
          rw [if_pos (decide_eq_true e3), Nat.mul_one] at ih'
          exact ih'
        · rw [if_neg (show ¬ nI _ = (1 : Int32) from ine (b := 1) e3 (by omega) (by omega))]
          rw [if_neg (fun q => e3 (of_decide_eq_true q)), Nat.mul_zero] at ih'
          exact ih'
theorem t_all (h : PG P B C tx tk) {wt : Nat → Int32} {w : Nat → Nat} (hw : WG wt w) (z : Int32) (rp rb : Int32) (r1 : Nat → Int32) (l1 l2 : Int64) (nw nx : Nat → Int64) (op : Int32) (m1 m2 : Nat → Int32) :
    ∃ a v u, f_X5_all z (nI P) (nI B) (nI C) tx rp rb r1 l1 l2 wt nw nx = some (a, v) ∧ f_X6_all z (nI P) (nI B) (nI C) op tx m1 m2 wt = some (a, u) := by
  obtain ⟨hs, hP1, hP, hB1, hB, hBP, hC1, hC, hk, h4, h5⟩ := id h
  rw [f_X5_all, f_X6_all, s_isPart, s_in, s_howMany _ _ hP, s_many _ _ hP]
  simp only [bd_s, ite10]
  by_cases hz : (0 : Int32) ≤ z ∧ z ≤ 1
  · rw [if_pos hz, if_pos hz]
    by_cases h42 : cnS tx 42 P = 0
    · rw [if_pos ((nI_le0 (by omega)).mpr h42), if_pos ((nI_le0 (by omega)).mpr h42)]
      have hl : (zl (ctf tk C) P).length ≤ 5 := by rw [h.zl42 hC1]; omega
      have hB2 : (2 : Nat) ^ B ≤ 1024 := Nat.le_trans (Nat.pow_le_pow_right (by decide) hB) (by decide)
      have hB3 : 1 ≤ (2 : Nat) ^ B := Nat.pow_pos (by decide)
      have hcq : ∀ q, q < P → q ∉ zl (ctf tk C) P → 1 ≤ ctf tk C q ∧ ctf tk C q ≤ 10 := fun q hq hn => by
        refine ⟨?_, cOf_le hC⟩
        rcases Nat.eq_zero_or_pos (ctf tk C q) with e | e
        · exact absurd (zl_mem.mpr ⟨hq, e⟩) hn
        · exact e
      obtain ⟨v, k1⟩ := s_chance h hw hC1 hC hl (st := 2 ^ B - 1) (Nat.lt_of_lt_of_le (show 2 ^ B - 1 < 1024 by omega) (by decide)) (nI B) z r1 nw nx
      obtain ⟨ct', k2⟩ := s_all_39 (B := B) hP hBP hw hl hcq (opf_at (o0 := m2)) z FU 0 (fa_fill (fun j => nI (ctf tk C j)) m1 P) (Nat.zero_le _) (FU_ge (by have := pow5 hl; omega)) (fun q hq _ => AR_fill _ _ _ q hq)
      have k2' : f_X6_all_39 z (nI P) (nI B) wt FU (0 : Int64) (0 : Int32) (nI (zl (ctf tk C) P).length) (fa_fill (fun j => nI (ctf tk C j)) m1 P) (opf (ctf tk C) m2 P) = _ := k2
      have hsub : lN (2 ^ B) - (1 : Int64) = lN (2 ^ B - 1) := by
        have : lN (2 ^ B) = lN (2 ^ B - 1) + lN 1 := by rw [lN_add, Nat.sub_add_cancel hB3]
        rw [this]
        exact Int64.add_sub_cancel _ _
      rw [shl_1 (by omega), hsub, k1, s_lay hs.p hP hC hl, bd_s]
      dsimp only
      rw [k2']
      have hsame : nsw (fun x => okb x P (2 ^ B - 1) P ((2 ^ B - 1) % 1024)) w (zl (ctf tk C) P) (ctf tk C) = nsw (fun x => decide (strs x P B = 1)) w (zl (ctf tk C) P) (ctf tk C) := by
        apply nsw_cong (P := P) _ _ hcq
        intro c' hc'
        have hbit : ∀ q, (2 ^ B - 1).testBit q = true ↔ q < B := fun q => by
          rw [Nat.testBit_two_pow_sub_one, decide_eq_true_eq]
        have := okb_start (st := 2 ^ B - 1) hc' ⟨0, (hbit 0).mpr (by omega)⟩ (fun q hq => by
          have := (hbit q).mp hq
          omega)
        rw [Bool.eq_iff_iff, this, decide_eq_true_eq, strs_one hc' hP hB1 hBP]
        constructor
        · intro h1 p q hp hq; exact h1 p q ((hbit p).mpr hp) ((hbit q).mpr hq)
        · intro h1 p q hp hq; exact h1 p q ((hbit p).mp hp) ((hbit q).mp hq)
      have hlow := hw.low hl
      have hup : nsw (fun x => decide (strs x P B = 1)) w (zl (ctf tk C) P) (ctf tk C) < 2 ^ 18 := Nat.lt_of_le_of_lt (nsw_le _ _) hlow.2
      rw [hsame]
      obtain ⟨r, g1, g2⟩ := s_frac hup hlow.2 hlow.1 z
      rw [g1, g2, bd_s, bd_s, bd_s]
      exact ⟨_, _, _, rfl, rfl⟩
    · rw [if_neg (fun q => h42 ((nI_le0 (by omega)).mp q)), if_neg (fun q => h42 ((nI_le0 (by omega)).mp q))]
      exact ⟨_, _, _, rfl, rfl⟩
  · rw [if_neg hz, if_neg hz]; exact ⟨_, _, _, rfl, rfl⟩
end CH
