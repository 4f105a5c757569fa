section SWEEP
variable {P B a : Nat} {c w : Nat → Nat} {wt on : Nat → Int32}
/-- what is told of a summary -/
def ansW (zs : List Nat) (S : SS) (p3 : Int32) : Int32 := match S.2 with
  | none => -6
  | some x => if (0 : Int32) ≤ p3 ∧ p3 ≤ nI zs.length - 1 then nI (x.2 (zs.getD (ix p3) 0)) else -6
theorem s_countIn {code : Nat} {ct : Nat → Int32} (hP : P ≤ 40) (hw : WG wt w) (hz : (zl c P).length ≤ 5) (hon : ∀ (i o : Nat), (zl c P)[i]? = some o → on i = nI o) (hcode : code < 10 ^ (zl c P).length) (hct : ∀ q, q < P → q ∉ zl c P → ct q = nI (c q)) (p3 : Int32) :
    ∃ ct', f_X6_countIn (nI code) p3 (nI (zl c P).length) ct on wt = some (if (0 : Int32) ≤ p3 ∧ p3 ≤ nI (zl c P).length - 1 then nI (asg c (zl c P) (dgt (zl c P).length code) ((zl c P).getD (ix p3) 0)) else -6, ct') := by
  have h10 := pow5 hz
  obtain ⟨ct', k1, k2⟩ := s_writeIn (zs := zl c P) (on := on) (wt := wt) (ct := ct) (w := w) (c := c) (code := code) hP rfl hz (fun o ho => (zl_mem.mp ho).1) (zl_nd c P) hon hw.1 (by omega) hct
  have hpr := prd_dgt_le (w := w) (fun d d1 d2 => (hw.1 d d1 d2).2) hz code
  refine ⟨ct', ?_⟩
  rw [f_X6_countIn, k1, bd_s, s_in, bd_s, ite10]
  dsimp only
  by_cases h : (0 : Int32) ≤ p3 ∧ p3 ≤ nI (zl c P).length - 1
  · rw [if_pos h, if_pos h, if_neg (nI_pos (by omega))]
    have hl : 1 ≤ (zl c P).length := by
      rcases Nat.eq_zero_or_pos (zl c P).length with z | z
      · exfalso
        rw [z] at h
        have h1 := h.1
        have h2 := h.2
        rw [fa_le] at h1 h2
        have z1 : (0 : Int32).toInt = 0 := rfl
        have z2 : (nI 0 - 1 : Int32).toInt = -1 := rfl
        omega
      · exact z
    rw [nI_m1 hl] at h
    obtain ⟨j, hj, rfl⟩ := nI_of2 (n := (zl c P).length - 1) (nI_toInt (by omega)) (nlt_of_le h.1) h.2
    have hj2 : j < (zl c P).length := by omega
    have e1 : (zl c P)[j]? = some (zl c P)[j] := List.getElem?_eq_getElem hj2
    have hzj := (zl_mem.mp (List.getElem_mem hj2)).1
    rw [inB_t (by omega) (by omega), ck_t, ix_nI (by omega), hon j _ e1, inB_t (by omega) (by omega), ck_t, ix_nI (by omega), k2 _ hzj, List.getD_eq_getElem?_getD, e1]
    rfl
  · rw [if_neg h, if_neg h]
/-- the reference's write: its state at a code -/
def RW1 (c : Nat → Nat) (zs : List Nat) (s : SS) (v5 : Int32) : Prop := (s.2 = none ∧ v5 = -6) ∨ ∃ code, code < 10 ^ zs.length ∧ s.2 = some (0, asg c zs (dgt zs.length code)) ∧ v5 = nI code
theorem s_write_57 {wk z : Nat} {zi : Int32} (hP : P ≤ 40) (hB : B ≤ P) (hw : WG wt w) (hz : (zl c P).length ≤ 5) (hc : ∀ q, q < P → q ∉ zl c P → 1 ≤ c q ∧ c q ≤ 10) (hon : ∀ (i o : Nat), (zl c P)[i]? = some o → on i = nI o) (ha : a < 2048) (hwk : wk ≤ 3) (hzi : wk = 3 → zi = nI z ∧ z < P) (p3 : Int32) :
    ∀ (n i : Nat) (ct : Nat → Int32) (s : SS) (v5 : Int32), i ≤ 10 ^ (zl c P).length → 10 ^ (zl c P).length - i < n → (∀ q, q < P → q ∉ zl c P → ct q = nI (c q)) →
    s = itr (fun s code => stp a.testBit (hld wk z P B) (fun _ => 0) (zl c P) s (1 * prd w (dgt (zl c P).length code)) (asg c (zl c P) (dgt (zl c P).length code))) i sz → RW1 c (zl c P) s v5 →
    ∃ v, f_X6_write_57 (nI wk) zi p3 (nI P) (nI B) (nI a) wt n (nI s.1) v5 (nI i) (nI (zl c P).length) ct on
      = some (if p3 = -1 then nI (SM a.testBit (hld wk z P B) (fun _ => 0) (zl c P) c).1 else ansW (zl c P) (SM a.testBit (hld wk z P B) (fun _ => 0) (zl c P) c) p3, v) := by
  have h10 := pow5 hz
  intro n
  induction n with
  | zero => intro i ct s v5 h1 h2; omega
  | succ n ih =>
    intro i ct s v5 h1 h2 hct hs hrw
    rw [f_X6_write_57, s_codes hz, bd_s]
    by_cases e : i = 10 ^ (zl c P).length
    · rw [e, codes_SM w c (zl c P) (zl_nd c P)] at hs
      subst hs
      rw [if_pos (ile (by omega) (by omega))]
      by_cases ep : p3 = -1
      · rw [if_pos ep, if_pos ep]; exact ⟨_, rfl⟩
      · rw [if_neg ep, if_neg ep]
        unfold ansW
        rcases hrw with ⟨h3, h4⟩ | ⟨code, h3, h4, h5⟩
        · rw [h3, h4, if_neg (by decide)]; exact ⟨_, rfl⟩
        · obtain ⟨ct', k1⟩ := s_countIn hP hw hz hon h3 hct p3
          rw [h4, h5, if_pos (nI_pos' (by omega)), k1, bd_s]
          exact ⟨_, rfl⟩
    · obtain ⟨ct', k1, k2⟩ := s_writeIn (zs := zl c P) (on := on) (wt := wt) (ct := ct) (w := w) (c := c) (code := i) hP rfl hz (fun o ho => (zl_mem.mp ho).1) (zl_nd c P) hon hw.1 (by omega) hct
      have hpr := prd_dgt_le (w := w) (fun d d1 d2 => (hw.1 d d1 d2).2) hz i
      have hoc : okc (asg c (zl c P) (dgt (zl c P).length i)) P := asg_okc (c := c) (zl c P) _ c (dgt_len _ _).symm hc (dgt_in _ _)
      have hct' : ∀ q, q < P → q ∉ zl c P → ct' q = nI (c q) := fun q hq hn => by rw [k2 q hq, asg_out _ _ _ _ hn]
      rw [if_neg (inle (by omega) (by omega)), k1, bd_s]
      dsimp only
      rw [if_neg (nI_pos (by omega)), s_isAllowed hP k2 hoc ha rfl hz (fun o ho => (zl_mem.mp ho).1) hon, bd_s, nI_p1]
      obtain ⟨T, hT, hnext⟩ : ∃ T, T = itr (fun s code => stp a.testBit (hld wk z P B) (fun _ => 0) (zl c P) s (1 * prd w (dgt (zl c P).length code)) (asg c (zl c P) (dgt (zl c P).length code))) (i + 1) sz ∧ T = stp a.testBit (hld wk z P B) (fun _ => 0) (zl c P) s (1 * prd w (dgt (zl c P).length i)) (asg c (zl c P) (dgt (zl c P).length i)) := ⟨_, rfl, by rw [itr, ← hs]⟩
      unfold stp at hnext
      cases hal : (zl c P).all (fun o => a.testBit (asg c (zl c P) (dgt (zl c P).length i) o)) with
      | false =>
        rw [hal, if_neg (by decide)] at hnext
        rw [if_pos (show b01 false = 0 from rfl)]
        exact ih (i + 1) ct' s v5 (by omega) (by omega) hct' (by rw [← hnext]; exact hT) hrw
      | true =>
        rw [hal, if_pos rfl] at hnext
        unfold lf at hnext
        rw [if_neg (show ¬ b01 true = 0 by decide), s_holds6 hoc hP k2 hB hwk hzi, bd_s]
        cases hh : hld wk z P B (asg c (zl c P) (dgt (zl c P).length i)) with
        | false =>
          rw [hh, if_neg (by decide), cmb_sz] at hnext
          rw [if_pos (show b01 false = 0 from rfl)]
          exact ih (i + 1) ct' s v5 (by omega) (by omega) hct' (by rw [← hnext]; exact hT) hrw
        | true =>
          rw [hh, if_pos rfl] at hnext
          rw [if_neg (show ¬ b01 true = 0 by decide), nI_p1]
          rcases hrw with ⟨h3, h4⟩ | ⟨code, h3, h4, h5⟩
          · rw [h4, if_neg (by decide)]
            exact ih (i + 1) ct' (s.1 + 1, some (0, asg c (zl c P) (dgt (zl c P).length i))) (nI i) (by omega) (by omega) hct' (by rw [← hT, hnext]; unfold cmb; rw [h3]; rfl) (Or.inr ⟨i, by omega, rfl, rfl⟩)
          · rw [h5, if_pos (nI_pos' (by omega))]
            exact ih (i + 1) ct' (s.1 + 1, some (0, asg c (zl c P) (dgt (zl c P).length code))) (nI code) (by omega) (by omega) hct' (by rw [← hT, hnext]; unfold cmb; rw [h4]; rfl) (Or.inr ⟨code, h3, rfl, rfl⟩)
/-- the reference's soonest: its state at a code -/
def RW2 (c : Nat → Nat) (zs : List Nat) (s : SS) (v2 v3 : Int32) : Prop := (s.2 = none ∧ v2 = -6) ∨ ∃ code r, code < 10 ^ zs.length ∧ r < 64 ∧ s.2 = some (r, asg c zs (dgt zs.length code)) ∧ v2 = nI code ∧ v3 = nI r
/-- what SOONEST tells of a summary -/
def ansS (zs : List Nat) (S : SS) (p3 : Int32) : Int32 := if p3 = -1 then (match S.2 with
  | none => -6
  | some x => nI x.1) else ansW zs S p3
theorem s_soonest_29 (hP : P ≤ 40) (hB1 : 1 ≤ B) (hB : B ≤ P) (hw : WG wt w) (hz : (zl c P).length ≤ 5) (hc : ∀ q, q < P → q ∉ zl c P → 1 ≤ c q ∧ c q ≤ 10) (hon : ∀ (i o : Nat), (zl c P)[i]? = some o → on i = nI o) (ha : a < 2048) (p3 : Int32) :
    ∀ (n i : Nat) (ct : Nat → Int32) (s : SS) (v2 v3 : Int32), i ≤ 10 ^ (zl c P).length → 10 ^ (zl c P).length - i < n → (∀ q, q < P → q ∉ zl c P → ct q = nI (c q)) →
    s = itr (fun s code => stp a.testBit (hld 0 0 P B) (rkS P B) (zl c P) s (1 * prd w (dgt (zl c P).length code)) (asg c (zl c P) (dgt (zl c P).length code))) i sz → RW2 c (zl c P) s v2 v3 →
    ∃ v, f_X6_soonest_29 p3 (nI P) (nI B) (nI a) wt n v2 v3 (nI i) (nI (zl c P).length) ct on
      = some (ansS (zl c P) (SM a.testBit (hld 0 0 P B) (rkS P B) (zl c P) c) p3, v) := by
  have h10 := pow5 hz
  intro n
  induction n with
  | zero => intro i ct s v2 v3 h1 h2; omega
  | succ n ih =>
    intro i ct s v2 v3 h1 h2 hct hs hrw
    rw [f_X6_soonest_29, s_codes hz, bd_s]
    by_cases e : i = 10 ^ (zl c P).length
    · rw [e, codes_SM w c (zl c P) (zl_nd c P)] at hs
      subst hs
      rw [if_pos (ile (by omega) (by omega))]
      unfold ansS ansW
      rcases hrw with ⟨h3, h4⟩ | ⟨code, r, h3, h3b, h4, h5, h6⟩
      · rw [h3, h4, if_neg (by decide)]
        dsimp only
        rw [ite_self]; exact ⟨_, rfl⟩
      · rw [h4, h5, h6, if_pos (nI_pos' (by omega))]
        by_cases ep : p3 = -1
        · rw [if_pos ep, if_pos ep]; exact ⟨_, rfl⟩
        · obtain ⟨ct', k1⟩ := s_countIn hP hw hz hon h3 hct p3
          rw [if_neg ep, if_neg ep, k1, bd_s]
          exact ⟨_, rfl⟩
    · obtain ⟨ct', k1, k2⟩ := s_writeIn (zs := zl c P) (on := on) (wt := wt) (ct := ct) (w := w) (c := c) (code := i) hP rfl hz (fun o ho => (zl_mem.mp ho).1) (zl_nd c P) hon hw.1 (by omega) hct
      have hpr := prd_dgt_le (w := w) (fun d d1 d2 => (hw.1 d d1 d2).2) hz i
      have hoc : okc (asg c (zl c P) (dgt (zl c P).length i)) P := asg_okc (c := c) (zl c P) _ c (dgt_len _ _).symm hc (dgt_in _ _)
      have hct' : ∀ q, q < P → q ∉ zl c P → ct' q = nI (c q) := fun q hq hn => by rw [k2 q hq, asg_out _ _ _ _ hn]
      rw [if_neg (inle (by omega) (by omega)), k1, bd_s]
      dsimp only
      rw [if_neg (nI_pos (by omega)), s_isAllowed hP k2 hoc ha rfl hz (fun o ho => (zl_mem.mp ho).1) hon, bd_s, nI_p1]
      obtain ⟨T, hT, hnext⟩ : ∃ T, T = itr (fun s code => stp a.testBit (hld 0 0 P B) (rkS P B) (zl c P) s (1 * prd w (dgt (zl c P).length code)) (asg c (zl c P) (dgt (zl c P).length code))) (i + 1) sz ∧ T = stp a.testBit (hld 0 0 P B) (rkS P B) (zl c P) s (1 * prd w (dgt (zl c P).length i)) (asg c (zl c P) (dgt (zl c P).length i)) := ⟨_, rfl, by rw [itr, ← hs]⟩
      unfold stp at hnext
      cases hal : (zl c P).all (fun o => a.testBit (asg c (zl c P) (dgt (zl c P).length i) o)) with
      | false =>
        rw [hal, if_neg (by decide)] at hnext
        rw [if_pos (show b01 false = 0 from rfl)]
        exact ih (i + 1) ct' s v2 v3 (by omega) (by omega) hct' (by rw [← hnext]; exact hT) hrw
      | true =>
        rw [hal, if_pos rfl] at hnext
        unfold lf at hnext
        have hs64 : strs (asg c (zl c P) (dgt (zl c P).length i)) P B ≤ 64 := fb_ct_le _ _
        rw [if_neg (show ¬ b01 true = 0 by decide), s_outsOfAll hoc hP k2 hB, bd_s]
        by_cases hst : strs (asg c (zl c P) (dgt (zl c P).length i)) P B = 1
        · have hh : hld 0 0 P B (asg c (zl c P) (dgt (zl c P).length i)) = true := by unfold hld; rw [if_pos rfl]; exact decide_eq_true hst
          rw [hh, if_pos rfl] at hnext
          have hps := one_psd hoc hP hB1 hB hst
          have hsp := fpp_spec P 0 _ (Nat.zero_le _) (by rw [Nat.zero_add]; exact hps.2) hps.1
          have hrk : rkS P B (asg c (zl c P) (dgt (zl c P).length i)) < 40 := by
            have := hsp.2.2.1
            have := hps.2
            unfold rkS
            omega
          rw [if_pos (by rw [hst]; rfl), s_firstPassed hoc hP k2 hB1 hB hst, bd_s]
          rcases hrw with ⟨h3, h4⟩ | ⟨code, r, h3, h3b, h4, h5, h6⟩
          · rw [h4, if_pos (by decide)]
            exact ih (i + 1) ct' (s.1 + 1, some (rkS P B (asg c (zl c P) (dgt (zl c P).length i)), asg c (zl c P) (dgt (zl c P).length i))) _ _ (by omega) (by omega) hct' (by rw [← hT, hnext]; unfold cmb; rw [h3]; rfl) (Or.inr ⟨i, _, by omega, by omega, rfl, rfl, rfl⟩)
          · rw [h5, h6, if_neg (nI_pos (by omega))]
            by_cases hle : r ≤ rkS P B (asg c (zl c P) (dgt (zl c P).length i))
            · rw [if_pos (ile hle (by omega))]
              exact ih (i + 1) ct' (s.1 + 1, some (r, asg c (zl c P) (dgt (zl c P).length code))) _ _ (by omega) (by omega) hct' (by rw [← hT, hnext]; unfold cmb pick; rw [h4]; dsimp only; rw [if_pos hle]) (Or.inr ⟨code, r, h3, h3b, rfl, rfl, rfl⟩)
            · rw [if_neg (inle (by omega) (by omega))]
              exact ih (i + 1) ct' (s.1 + 1, some (rkS P B (asg c (zl c P) (dgt (zl c P).length i)), asg c (zl c P) (dgt (zl c P).length i))) _ _ (by omega) (by omega) hct' (by rw [← hT, hnext]; unfold cmb pick; rw [h4]; dsimp only; rw [if_neg hle]) (Or.inr ⟨i, _, by omega, by omega, rfl, rfl, rfl⟩)
        · have hh : hld 0 0 P B (asg c (zl c P) (dgt (zl c P).length i)) = false := by unfold hld; rw [if_pos rfl]; exact decide_eq_false hst
          rw [hh, if_neg (by decide), cmb_sz] at hnext
          rw [if_neg (show ¬ nI _ = (1 : Int32) from ine (b := 1) hst (by omega) (by omega))]
          exact ih (i + 1) ct' s v2 v3 (by omega) (by omega) hct' (by rw [← hnext]; exact hT) hrw
end SWEEP
