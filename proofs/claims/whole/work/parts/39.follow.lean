def dn_ (j : Nat) : Int32 := if j = 0 then -1 else nI (j - 1)
theorem dn_m1 {j : Nat} (h : 1 ≤ j) : nI (j - 1) + (-1 : Int32) = dn_ (j - 1) := by
  unfold dn_
  by_cases e : j - 1 = 0
  · rw [if_pos e, e]; rfl
  · rw [if_neg e, sb_m1 (by omega)]
theorem s_follow_15 {c : Nat → Nat} {P B : Nat} {ct : Nat → Int32} (hc : okc c P) (hP : P ≤ 40) (hr : AR ct c P) (hB : B ≤ P) : ∀ (n j : Nat) (e cm ld ch : Nat → Int32), j ≤ P → j < n →
    (∀ i, j ≤ i → i < P → e i = nI (ou c P i) ∧ cm i = nI (if i < B then 1 else 0) ∧ ld i = nI 0 ∧ ch i = nI 0) →
    ∃ e' cm' ld' ch', (∀ i, i < P → e' i = nI (ou c P i) ∧ cm' i = nI (if i < B then 1 else 0) ∧ ld' i = nI 0 ∧ ch' i = nI 0) ∧
      f_X2_follow_15 n (dn_ j) (nI P) (nI B) ct e cm ld ch = f_X2_follow_86 FU (0 : Int32) (nI P) (nI B) ct e' cm' ld' ch' := by
  intro n
  induction n with
  | zero => intro j e cm ld ch h1 h2; omega
  | succ n ih =>
    intro j e cm ld ch h1 h2 hi
    rw [f_X2_follow_15]
    by_cases e0 : j = 0
    · subst e0
      exact ⟨e, cm, ld, ch, fun i hiP => hi i (Nat.zero_le _) hiP, by rw [if_pos (show dn_ 0 < 0 by decide)]⟩
    · have hjP : j - 1 < P := by omega
      have hcj := hc (j - 1) hjP
      have hdn : dn_ j = nI (j - 1) := by unfold dn_; rw [if_neg e0]
      rw [hdn, if_neg (nI_pos (by omega)), inB_t (by omega) (by omega), ck_t, ix_nI (by omega), hr (j - 1) hjP, f_X2_endBy, nI_add]
      have hend : (if nI P ≤ nI (j - 1 + c (j - 1)) then some (nI (j - 1)) else ck (inB (nI (j - 1 + c (j - 1))) 40) (some (e (ix (nI (j - 1 + c (j - 1))))))) = some (nI (ou c P (j - 1))) := by
        rw [ou_eq hc hjP]
        by_cases h : j - 1 + c (j - 1) < P
        · rw [if_neg (inle h (by omega)), if_pos h, inB_t (by omega) (by omega), ck_t, ix_nI (by omega), (hi _ (by omega) h).1]
        · rw [if_pos (ile (by omega) (by omega)), if_neg h]
      rw [hend, bd_s, dn_m1 (by omega)]
      by_cases hb : B ≤ j - 1
      · rw [if_pos (ile hb (by omega))]
        refine ih (j - 1) _ _ _ _ (by omega) (by omega) (fun i h3 h4 => ?_)
        rw [upd_at, upd_at, upd_at, upd_at]
        by_cases e2 : i = j - 1
        · subst e2
          rw [if_pos rfl, if_pos rfl, if_pos rfl, if_pos rfl, if_neg (show ¬ j - 1 < B by omega)]
          exact ⟨rfl, rfl, rfl, rfl⟩
        · rw [if_neg e2, if_neg e2, if_neg e2, if_neg e2]
          exact hi i (by omega) h4
      · rw [if_neg (inle (by omega) (by omega))]
        refine ih (j - 1) _ _ _ _ (by omega) (by omega) (fun i h3 h4 => ?_)
        rw [upd_at, upd_at, upd_at, upd_at]
        by_cases e2 : i = j - 1
        · subst e2
          rw [if_pos rfl, if_pos rfl, if_pos rfl, if_pos rfl, if_pos (show j - 1 < B by omega)]
          exact ⟨rfl, rfl, rfl, rfl⟩
        · rw [if_neg e2, if_neg e2, if_neg e2, if_neg e2]
          exact hi i (by omega) h4
theorem chn_le (c : Nat → Nat) : ∀ i q, chn c i q ≤ i
  | 0, q => Nat.le_refl _
  | i + 1, q => by
    have h1 := chn_le c i q
    have h2 := chn_le c i i
    rw [chn]
    by_cases h : i + c i = q
    · rw [if_pos h]; omega
    · rw [if_neg h]; omega
theorem cmr_le {c : Nat → Nat} {P B q : Nat} : cmr c P B q ≤ B := fb_ct_le _ _
theorem cmi_le {c : Nat → Nat} {P B i q : Nat} (hB : B ≤ 10) (hi : i ≤ 40) : cmi c P B i q ≤ 401 := by
  unfold cmi
  have h1 : fb_sm (fun x => if x + c x = q then cmr c P B x else 0) i ≤ i * 10 := fb_sm_bound (fun k _ => by
    by_cases h : k + c k = q
    · rw [if_pos h]; exact Nat.le_trans cmr_le hB
    · rw [if_neg h]; omega)
  have h2 : (if q < B then 1 else 0) ≤ 1 := by split <;> omega
  have h3 : i * 10 ≤ 40 * 10 := Nat.mul_le_mul_right _ hi
  omega
theorem s_follow_86 {c : Nat → Nat} {P B : Nat} {ct e : Nat → Int32} (hc : okc c P) (hP : P ≤ 40) (hr : AR ct c P) (hB : B ≤ P) (hB10 : B ≤ 10) : ∀ (n i : Nat) (cm ld ch : Nat → Int32), i ≤ P → P - i < n →
    (∀ q, q < P → cm q = nI (cmi c P B i q) ∧ ld q = nI (ldr c q i) ∧ ch q = nI (chn c i q)) →
    ∃ cm' ld' ch', f_X2_follow_86 n (nI i) (nI P) (nI B) ct e cm ld ch = some (nI P, nI B, ct, e, cm', ld', ch') ∧ ∀ q, q < P → cm' q = nI (cmr c P B q) ∧ ld' q = nI (ldr c q P) ∧ ch' q = nI (chn c P q) := by
  intro n
  induction n with
  | zero => intro i cm ld ch h1 h2; omega
  | succ n ih =>
    intro i cm ld ch h1 h2 hq
    rw [f_X2_follow_86]
    by_cases e0 : i = P
    · subst e0
      refine ⟨cm, ld, ch, by rw [if_pos (ile (Nat.le_refl _) (by omega))], fun q hqP => ?_⟩
      have := hq q hqP
      rw [cmi_cmr hc hB hqP (by omega) (Nat.le_refl _)] at this
      exact this
    · have hiP : i < P := by omega
      have hci := hc i hiP
      rw [if_neg (inle hiP (by omega)), inB_t (by omega) (by omega), ck_t, ix_nI (by omega), hr i hiP, nI_add, nI_p1]
      by_cases h : i + c i < P
      · rw [if_neg (inle h (by omega)), inB_t (by omega) (by omega), ck_t, ix_nI (by omega), (hq _ h).1, (hq _ h).2.1, (hq _ h).2.2, (hq i hiP).1, (hq i hiP).2.2]
        refine ih (i + 1) _ _ _ (by omega) (by omega) (fun q hqP => ?_)
        rw [upd_at, upd_at, upd_at]
        have hsm : cmi c P B (i + 1) q = cmi c P B i q + (if i + c i = q then cmr c P B i else 0) := by
          unfold cmi; rw [fb_sm_succ]; omega
        have hld : ldr c q (i + 1) = ldr c q i + (if i + c i = q then 1 else 0) := by
          unfold ldr; rw [fb_ct_succ]; simp
        by_cases e2 : q = i + c i
        · rw [if_pos e2, if_pos e2, if_pos e2, hsm, hld, if_pos e2.symm, if_pos e2.symm, chn, if_pos e2.symm]
          have h9 := chn_le c i i
          have h8 := chn_le c i q
          refine ⟨?_, ?_, ?_⟩
          · rw [nI_add, cmi_cmr (q := i) hc hB hiP (Nat.le_refl _) (by omega), e2]
          · rw [nI_p1, e2]
          · rw [nI_p1, ← e2]
            by_cases h7 : chn c i q < chn c i i + 1
            · rw [if_pos (ilt h7 (by omega)), Nat.max_eq_right (by omega)]
            · rw [if_neg (inlt (by omega) (by omega)), Nat.max_eq_left (by omega)]
        · rw [if_neg e2, if_neg e2, if_neg e2, hsm, hld, if_neg (fun q2 => e2 q2.symm), if_neg (fun q2 => e2 q2.symm), chn, if_neg (fun q2 => e2 q2.symm), Nat.add_zero, Nat.add_zero]
          exact hq q hqP
      · rw [if_pos (ile (by omega) (by omega))]
        refine ih (i + 1) _ _ _ (by omega) (by omega) (fun q hqP => ?_)
        have hsm : cmi c P B (i + 1) q = cmi c P B i q := by
          unfold cmi; rw [fb_sm_succ, if_neg (show ¬ i + c i = q by omega), Nat.add_zero]
        have hld : ldr c q (i + 1) = ldr c q i := by
          unfold ldr; rw [fb_ct_succ, decide_eq_false (show ¬ i + c i = q by omega)]; simp
        rw [hsm, hld, chn, if_neg (show ¬ i + c i = q by omega)]
        exact hq q hqP
theorem s_follow {tx : Nat → Int32} {tk : Nat → Nat} {C P B : Nat} (hs : SGP tx tk P) (hP : P ≤ 40) (hP1 : 1 ≤ P) (hB : B ≤ P) (hB10 : B ≤ 10) (hc : okc (ctf tk C) P) (f0 e0 c0 l0 h0 : Nat → Int32) :
    ∃ ct e cm ld ch, f_X2_follow (nI C) tx (nI P) (nI B) f0 e0 c0 l0 h0 = some (nI P, nI B, ct, e, cm, ld, ch) ∧ AR ct (ctf tk C) P ∧ AR e (ou (ctf tk C) P) P ∧
      (∀ q, q < P → cm q = nI (cmr (ctf tk C) P B q) ∧ ld q = nI (ldr (ctf tk C) q P) ∧ ch q = nI (chn (ctf tk C) P q)) := by
  rw [f_X2_follow, s_read hs hP, bd_s]
  dsimp only
  have hr := AR_fill (ctf tk C) f0 P
  generalize fa_fill (fun j => nI (ctf tk C j)) f0 P = ct at hr ⊢
  have hdn : nI P - (1 : Int32) = dn_ P := by unfold dn_; rw [if_neg (by omega), nI_m1 hP1]
  rw [hdn]
  obtain ⟨e', cm', ld', ch', h1, h2⟩ := s_follow_15 hc hP hr hB FU P e0 c0 l0 h0 (Nat.le_refl _) (FU_ge (by omega)) (fun i h3 h4 => by omega)
  rw [h2]
  obtain ⟨cm, ld, ch, h3, h4⟩ := s_follow_86 (e := e') hc hP hr hB hB10 FU 0 cm' ld' ch' (Nat.zero_le _) (FU_ge (by omega)) (fun q hq => by
    have := h1 q hq
    refine ⟨?_, this.2.2.1, this.2.2.2⟩
    rw [this.2.1]
    congr 1)
  exact ⟨ct, e', cm, ld, ch, h3, hr, fun q hq => (h1 q hq).1, h4⟩
