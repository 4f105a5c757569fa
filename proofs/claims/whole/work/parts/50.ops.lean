/-! ===== the calls that change what is kept ===== -/
def PD (sg : Int32) (pd : Nat → Int32) : Prop := (∃ s, s ≤ 48 ∧ sg = nI s) ∧ ∃ pk, SG pd pk
def TI (P B C A S : Int32) (tx wt sf so : Nat → Int32) : Prop := ∃ p b c s tk w, P = nI p ∧ B = nI b ∧ C = nI c ∧ S = nI s ∧ PG p b c tx tk ∧ WG wt w ∧ (A ≠ 0 ∧ A &&& (-2047 : Int32) = 0) ∧ s ≤ 6 ∧ ∀ i, i < s → ∃ f o, f < p ∧ o < p ∧ sf i = nI f ∧ so i = nI o
theorem SG_upd {tx : Nat → Int32} {tk : Nat → Nat} (h : SG tx tk) {k : Nat} (hk : k < 65536) (i : Nat) : SG (upd tx i (nI k)) (fun j => if j = i then k else tk j) := fun j => by
  rw [upd_at]
  by_cases e : j = i
  · rw [if_pos e]; dsimp only; rw [if_pos e]; exact ⟨rfl, hk⟩
  · rw [if_neg e]; dsimp only; rw [if_neg e]; exact h j
theorem t_say {sg : Int32} {pd : Nat → Int32} (h : PD sg pd) (x : Int32) : ∃ a sg' pd', f_X5_say x sg pd = some (a, sg', pd') ∧ f_X6_say x sg pd = some (a, sg', pd') ∧ PD sg' pd' := by
  obtain ⟨⟨s, hs, rfl⟩, pk, hp⟩ := id h
  rw [f_X5_say, f_X6_say, s_in, bd_s, ite10]
  by_cases h1 : x < 33
  · rw [if_pos h1, if_neg (fun q => nle_of_lt h1 q.1)]; exact ⟨_, _, _, rfl, rfl, h⟩
  · rw [if_neg h1]
    by_cases h2 : x ≤ 126
    · rw [if_pos h2, if_pos (And.intro (le_of_nlt h1) h2), q_48]
      obtain ⟨k, hk, rfl⟩ : ∃ k, k ≤ 126 ∧ x = nI k := by
        have h3 : ¬ x < 0 := fun h4 => h1 (by rw [fa_lt] at h4 ⊢; have : (33 : Int32).toInt = 33 := rfl; have : (0 : Int32).toInt = 0 := rfl; omega)
        exact nI_of2 (n := 126) (nI_toInt (by omega)) h3 h2
      by_cases h3 : s = 48
      · subst h3
        rw [if_neg (inlt (Nat.le_refl _) (by omega)), if_pos rfl]; exact ⟨_, _, _, rfl, rfl, h⟩
      · rw [if_pos (ilt (by omega) (by omega)), if_neg (ine h3 (by omega) (by omega)), inB_t (by omega) (by omega), ck_t, ck_t, ji2c_nI (by omega), nar_char (by omega), nI_p1]
        exact ⟨_, _, _, rfl, rfl, ⟨s + 1, by omega, rfl⟩, _, SG_upd hp (by omega) _⟩
    · rw [if_neg h2, if_neg (fun q => h2 q.2)]; exact ⟨_, _, _, rfl, rfl, h⟩
theorem s_f50 (K : Int32 → Int32 → Int32 → Option Int32) (v1 v3 s0 s1 : Int32) {k : Nat} (hk : k < 65536) : (okk k → f_X6_faultOf_50 K v1 v3 (nI k) s0 s1 = f_X6_faultOf_105 K v1 (s1 + s0) v3 1) ∧ (¬ okk k → f_X6_faultOf_50 K v1 v3 (nI k) s0 s1 = f_X6_faultOf_105 K v1 (s1 + s0) v3 0) := by
  rw [f_X6_faultOf_50, s_in, bd_s, ite10, f_X6_isCourt]
  have e : ∀ a : Nat, a < 65536 → (nI k = nI a ↔ k = a) := fun a ha => ieq_iff (by omega) (by omega)
  have hr : ((49 : Int32) ≤ nI k ∧ nI k ≤ 57) ↔ 49 ≤ k ∧ k ≤ 57 := by
    constructor
    · rintro ⟨a, b⟩
      rw [q_49] at a; rw [q_57] at b
      exact ⟨Classical.byContradiction (fun z => inle (show k < 49 by omega) (by omega) a), Classical.byContradiction (fun z => inle (show 57 < k by omega) (by omega) b)⟩
    · rintro ⟨a, b⟩
      exact ⟨ile (a := 49) a (by omega), ile (b := 57) b (by omega)⟩
  have e84 : nI k = 84 ↔ k = 84 := e 84 (by decide)
  have e65 : nI k = 65 ↔ k = 65 := e 65 (by decide)
  have e74 : nI k = 74 ↔ k = 74 := e 74 (by decide)
  have e81 : nI k = 81 ↔ k = 81 := e 81 (by decide)
  have e75 : nI k = 75 ↔ k = 75 := e 75 (by decide)
  have e42 : nI k = 42 ↔ k = 42 := e 42 (by decide)
  have e63 : nI k = 63 ↔ k = 63 := e 63 (by decide)
  simp only [e84, e65, e74, e81, e75, e42, e63, hr]
  unfold okk
  by_cases h1 : 49 ≤ k ∧ k ≤ 57
  · rw [if_pos h1]; exact ⟨fun _ => rfl, fun q => absurd (Or.inl h1) q⟩
  · rw [if_neg h1]
    by_cases h2 : k = 84
    · rw [if_pos h2]; exact ⟨fun _ => rfl, fun q => by omega⟩
    · rw [if_neg h2]
      by_cases h3 : k = 65
      · rw [if_pos h3]; exact ⟨fun _ => rfl, fun q => by omega⟩
      · rw [if_neg h3]
        by_cases h4 : k = 74
        · rw [if_pos h4, bd_s, if_neg (by decide)]; exact ⟨fun _ => rfl, fun q => by omega⟩
        · rw [if_neg h4]
          by_cases h5 : k = 81
          · rw [if_pos h5, bd_s, if_neg (by decide)]; exact ⟨fun _ => rfl, fun q => by omega⟩
          · rw [if_neg h5]
            by_cases h6 : k = 75
            · rw [if_pos h6, bd_s, if_neg (by decide)]; exact ⟨fun _ => rfl, fun q => by omega⟩
            · rw [if_neg h6, bd_s, if_pos rfl]
              by_cases h7 : k = 42
              · rw [if_pos h7]; exact ⟨fun _ => rfl, fun q => by omega⟩
              · rw [if_neg h7]
                by_cases h8 : k = 63
                · rw [if_pos h8]; exact ⟨fun _ => rfl, fun q => by omega⟩
                · rw [if_neg h8]; exact ⟨fun q => by omega, fun _ => rfl⟩
theorem cOf_no {k : Nat} (h : ¬ okk k) : cOf k 1 = 0 := by
  unfold okk at h
  unfold cOf
  rw [if_neg (by omega), if_neg (by omega), if_neg (by omega), if_neg (by omega)]
section OP
variable {s : Nat} {pd : Nat → Int32} {pk : Nat → Nat}
theorem s_fault_6 (hs : s ≤ 48) (hp : SG pd pk) : ∀ (n i : Nat), i ≤ s → i ≤ 40 → s - i < n → (∀ j, j < i → okk (pk j)) → cnS pd 42 i ≤ 4 → cnS pd 63 i ≤ 5 →
    ∃ a, f_X5_firstFault_6 (nI s) pd n (nI (cnS pd 42 i)) (nI (cnS pd 63 i)) (nI i) = some a ∧ f_X6_faultOf_6 (nI s) pd n (nI (cnS pd 42 i)) (nI (cnS pd 63 i)) (nI i) = some a ∧
      ((a = -6 ∧ 1 ≤ s ∧ s ≤ 40 ∧ (∀ j, j < s → okk (pk j)) ∧ cnS pd 42 s ≤ 4 ∧ cnS pd 63 s ≤ 5) ∨ (∃ k, k ≤ 48 ∧ a = nI k)) := by
  intro n
  induction n with
  | zero => intro i h1 h2 h3; omega
  | succ n ih =>
    intro i h1 h2 h3 hk h4 h5
    rw [f_X5_firstFault_6, f_X6_faultOf_6]
    by_cases e : i = s
    · subst e
      rw [if_pos (ile (Nat.le_refl _) (by omega)), if_pos (ile (Nat.le_refl _) (by omega))]
      by_cases e0 : i = 0
      · subst e0; rw [if_pos (show nI 0 = 0 from rfl)]
        exact ⟨_, rfl, rfl, Or.inr ⟨0, by omega, rfl⟩⟩
      · rw [if_neg (by rw [q_0]; exact ine e0 (by omega) (by omega))]
        exact ⟨_, rfl, rfl, Or.inl ⟨rfl, by omega, h2, hk, h4, h5⟩⟩
    · have hpi := hp i
      have hko : ∀ a : Nat, a < 65536 → (nI (pk i) = nI a ↔ pk i = a) := fun a ha => ieq_iff (by omega) (by omega)
      have c42 : cnS pd 42 (i + 1) = cnS pd 42 i + (if pk i = 42 then 1 else 0) := by
        rw [q_42, cnS_tk hp (by decide), cnS_tk hp (by decide), fb_ct_succ]
        by_cases z : pk i = 42
        · rw [decide_eq_true z, if_pos rfl, if_pos z]
        · rw [decide_eq_false z, if_neg (by decide), if_neg z]
      have c63 : cnS pd 63 (i + 1) = cnS pd 63 i + (if pk i = 63 then 1 else 0) := by
        rw [q_63, cnS_tk hp (by decide), cnS_tk hp (by decide), fb_ct_succ]
        by_cases z : pk i = 63
        · rw [decide_eq_true z, if_pos rfl, if_pos z]
        · rw [decide_eq_false z, if_neg (by decide), if_neg z]
      have tail : okk (pk i) → ∃ a, f_X5_firstFault_59 (f_X5_firstFault_6 (nI s) pd n) (nI (cnS pd 42 (i + 1))) (nI (cnS pd 63 (i + 1))) (nI i) = some a ∧ f_X6_faultOf_105 (f_X6_faultOf_6 (nI s) pd n) (nI (cnS pd 42 (i + 1))) (nI (cnS pd 63 (i + 1))) (nI i) 1 = some a ∧
          ((a = -6 ∧ 1 ≤ s ∧ s ≤ 40 ∧ (∀ j, j < s → okk (pk j)) ∧ cnS pd 42 s ≤ 4 ∧ cnS pd 63 s ≤ 5) ∨ (∃ k, k ≤ 48 ∧ a = nI k)) := by
        intro hok
        have l42 : cnS pd 42 (i + 1) ≤ 5 := by rw [c42]; split <;> omega
        have l63 : cnS pd 63 (i + 1) ≤ 6 := by rw [c63]; split <;> omega
        rw [f_X5_firstFault_59, f_X6_faultOf_105, if_neg (show ¬ (1 : Int32) = 0 by decide), q_40, q_4, q_5]
        by_cases e40 : i = 40
        · subst e40; rw [if_pos (ile (Nat.le_refl _) (by omega)), if_pos rfl]; exact ⟨_, rfl, rfl, Or.inr ⟨40, by omega, rfl⟩⟩
        · rw [if_neg (inle (by omega) (by omega)), if_neg (ine e40 (by omega) (by omega))]
          by_cases g1 : cnS pd 42 (i + 1) ≤ 4
          · rw [if_neg (inlt g1 (by omega)), if_neg (inlt g1 (by omega))]
            by_cases g2 : cnS pd 63 (i + 1) ≤ 5
            · rw [if_pos (ile g2 (by omega)), if_pos (ile g2 (by omega)), nI_p1]
              refine ih (i + 1) (by omega) (by omega) (by omega) (fun j hj => ?_) g1 g2
              by_cases ej : j = i
              · rw [ej]; exact hok
              · exact hk j (by omega)
            · rw [if_neg (inle (by omega) (by omega)), if_neg (inle (by omega) (by omega))]
              exact ⟨_, rfl, rfl, Or.inr ⟨i, by omega, rfl⟩⟩
          · rw [if_pos (ilt (by omega) (by omega)), if_pos (ilt (by omega) (by omega))]
            exact ⟨_, rfl, rfl, Or.inr ⟨i, by omega, rfl⟩⟩
      have z32 : ∀ m : Nat, nI m + (0 : Int32) = nI (m + 0) := fun m => nI_add m 0
      rw [if_neg (inle (by omega) (by omega)), if_neg (inle (by omega) (by omega)), inB_t (by omega) (by omega), ck_t, ck_t, ix_nI (by omega), hpi.1]
      have e42 : nI (pk i) = 42 ↔ pk i = 42 := hko 42 (by decide)
      have e63 : nI (pk i) = 63 ↔ pk i = 63 := hko 63 (by decide)
      by_cases h42 : pk i = 42
      · have hok : okk (pk i) := by unfold okk; omega
        have h63 : ¬ pk i = 63 := by omega
        rw [if_pos (e42.mpr h42), if_pos (e42.mpr h42), if_neg (fun q => h63 (e63.mp q)), (s_f50 _ _ _ _ _ hpi.2).1 hok, nI_p1, z32]
        have := tail hok
        rw [c42, c63, if_pos h42, if_neg h63] at this
        exact this
      · rw [if_neg (fun q => h42 (e42.mp q)), if_neg (fun q => h42 (e42.mp q))]
        by_cases h63 : pk i = 63
        · have hok : okk (pk i) := by unfold okk; omega
          rw [if_pos (e63.mpr h63), if_pos (e63.mpr h63), (s_f50 _ _ _ _ _ hpi.2).1 hok, nI_p1, z32]
          have := tail hok
          rw [c42, c63, if_neg h42, if_pos h63] at this
          exact this
        · rw [if_neg (fun q => h63 (e63.mp q)), if_neg (fun q => h63 (e63.mp q))]
          have hc := s5_countOf (C := 1) hpi.2
          have hc' : f_X5_countOf (nI (pk i)) (1 : Int32) = some (nI (cOf (pk i) 1)) := hc
          rw [hc', bd_s]
          by_cases hok : okk (pk i)
          · have hcz : ¬ cOf (pk i) 1 = 0 := fun z => by rcases (cOf_pos hok (Nat.le_refl 1)).mp z with q | q <;> omega
            have h10 := cOf_le (k := pk i) (C := 1) (by decide)
            rw [if_neg (by rw [q_0]; exact ine hcz (by omega) (by omega)), (s_f50 _ _ _ _ _ hpi.2).1 hok, z32, z32]
            have := tail hok
            rw [c42, c63, if_neg h42, if_neg h63] at this
            exact this
          · rw [cOf_no hok, if_pos (show nI 0 = 0 from rfl), (s_f50 _ _ _ _ _ hpi.2).2 hok, f_X6_faultOf_105, if_pos rfl]
            exact ⟨_, rfl, rfl, Or.inr ⟨i, by omega, rfl⟩⟩
theorem s_fault (hs : s ≤ 48) (hp : SG pd pk) : ∃ a, f_X5_firstFault (nI s) pd = some a ∧ f_X6_faultOf (nI s) pd = some a ∧ ((a = -6 ∧ 1 ≤ s ∧ s ≤ 40 ∧ (∀ j, j < s → okk (pk j)) ∧ cnS pd 42 s ≤ 4 ∧ cnS pd 63 s ≤ 5) ∨ (∃ k, k ≤ 48 ∧ a = nI k)) :=
  s_fault_6 hs hp FU 0 (Nat.zero_le _) (Nat.zero_le _) (FU_ge (by omega)) (fun j h => by omega) (Nat.zero_le _) (Nat.zero_le _)
theorem t_fault {sg : Int32} (h : PD sg pd) : ∃ a, f_X5_fault sg pd = some a ∧ f_X6_fault sg pd = some a := by
  obtain ⟨⟨s, hs, rfl⟩, pk, hp⟩ := h
  obtain ⟨a, h1, h2, _⟩ := s_fault hs hp
  exact ⟨a, by rw [f_X5_fault, h1, bd_s], by rw [f_X6_fault, h2, bd_s]⟩
theorem s_page_20 (hs : s ≤ 40) (tx : Nat → Int32) (P B S : Int32) : ∀ (n i : Nat), i ≤ s → s - i < n → f_X6_page_20 pd n (nI i) (nI s) P B S (fa_fill pd tx i) = some (P, 0, P, 1, 0, fa_fill pd tx s) := by
  intro n
  induction n with
  | zero => intro i h1 h2; omega
  | succ n ih =>
    intro i h1 h2
    rw [f_X6_page_20]
    by_cases e : i = s
    · subst e; rw [if_pos (ile (Nat.le_refl _) (by omega))]
    · rw [if_neg (inle (by omega) (by omega)), inB_t (by omega) (by omega), ck_t, inB_t (by omega) (by omega), ck_t, ix_nI (by omega), fa_fill_succ, nI_p1]
      exact ih (i + 1) (by omega) (by omega)
theorem cpy_fill (f g : Nat → Int32) (n : Nat) : va_cpy f g 0 0 n = fa_fill f g n := by
  funext k
  unfold va_cpy fa_fill
  by_cases e : k < n
  · rw [if_pos (And.intro (Nat.zero_le k) (show k < 0 + n by omega)), if_pos e]; simp
  · rw [if_neg (fun q => e (by omega)), if_neg e]
theorem fit_t (hp : SG pd pk) (n : Int32) : fitC pd 0 n = true := by
  unfold fitC
  rw [List.all_eq_true]
  intro i _
  have := hp ((0 : Int32).toNatClampNeg + i)
  rw [this.1]
  have h1 := this.2
  have a : (0 : Int32) ≤ nI (pk ((0 : Int32).toNatClampNeg + i)) := nI_pos' (by omega)
  have b : nI (pk ((0 : Int32).toNatClampNeg + i)) ≤ (65535 : Int32) := ile (b := 65535) (by omega) (by omega)
  show (decide (_ ≤ _) && decide (_ ≤ _)) = true
  rw [decide_eq_true a, decide_eq_true b]; rfl
end OP
