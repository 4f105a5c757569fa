/-! ===== fits and drawn: the class's roots and needs ===== -/
section GU
variable {c0 w : Nat → Nat} {P : Nat} {wt sps rts ct : Nat → Int32}
theorem s_rootBy (hP : P ≤ 40) {p d : Nat} (hp : p < P) (hd : d ≤ 10) (hrt : p + d < P → rts (p + d) = nI (rt c0 P (p + d))) : f_X1_rootBy (nI p) (nI d) (nI P) rts = some (nI (rby c0 P p d)) := by
  rw [f_X1_rootBy, nI_add]
  unfold rby
  by_cases h : p + d < P
  · rw [if_neg (inle h (by omega)), inB_t (by omega) (by omega), ck_t, ix_nI (by omega), hrt h, if_pos h]
  · rw [if_pos (ile (by omega) (by omega)), if_neg h]
theorem dn_s (i : Nat) : dn_ (i + 1) = nI i := by unfold dn_; rw [if_neg (by omega)]; rfl
theorem nI_dn (i : Nat) : nI i + (-1 : Int32) = dn_ i := by
  have := dn_m1 (j := i + 1) (by omega); rw [Nat.add_sub_cancel] at this; exact this
theorem s_findRoots_12 (hP : P ≤ 40) (hct : AR ct c0 P) (hc10 : ∀ q, q < P → c0 q ≤ 10) : ∀ (n j : Nat) (ro : Nat → Int32), j ≤ P → j < n → (∀ q, j ≤ q → q < P → ro q = nI (rt c0 P q)) →
    ∃ ro', f_X1_findRoots_12 (nI P) ct n (nI (zl c0 j).length) (dn_ j) ro = some ro' ∧ AR ro' (rt c0 P) P := by
  intro n
  induction n with
  | zero => intro j ro h1 h2; omega
  | succ n ih =>
    intro j ro h1 h2 h3
    rw [f_X1_findRoots_12]
    by_cases e0 : j = 0
    · subst e0
      exact ⟨ro, by rw [if_pos (show dn_ 0 < 0 by decide)], fun q hq => h3 q (Nat.zero_le _) hq⟩
    · obtain ⟨i, rfl⟩ : ∃ i, j = i + 1 := ⟨j - 1, by omega⟩
      have hi10 := hc10 i (by omega)
      rw [dn_s, if_neg (nI_pos (by omega)), inB_t (by omega) (by omega), ck_t, ix_nI (by omega), hct i (by omega), nI_dn i]
      by_cases e : c0 i = 0
      · rw [e, if_pos (show nI 0 = 0 from rfl), len_next e, nI_dn, dn_s, q_40, nI_add]
        refine ih i _ (by omega) (by omega) (fun q hq hqP => ?_)
        rw [upd_at]
        by_cases e2 : q = i
        · rw [if_pos e2, e2, rt_eq (by omega), if_pos e]
        · rw [if_neg e2]; exact h3 q (by omega) hqP
      · have hlen : (zl c0 (i + 1)).length = (zl c0 i).length := by rw [zl_succ, if_neg e, List.append_nil]
        rw [if_neg (show ¬ nI (c0 i) = 0 by rw [q_0]; exact ine e (by omega) (by omega)), s_rootBy (c0 := c0) hP (show i < P by omega) hi10 (fun h => h3 _ (by omega) h), bd_s, hlen]
        refine ih i _ (by omega) (by omega) (fun q hq hqP => ?_)
        rw [upd_at]
        by_cases e2 : q = i
        · rw [if_pos e2, e2, rt_eq (by omega), if_neg e]
        · rw [if_neg e2]; exact h3 q (by omega) hqP
theorem s_findRoots (hP1 : 1 ≤ P) (hP : P ≤ 40) (hct : AR ct c0 P) (hc10 : ∀ q, q < P → c0 q ≤ 10) (ro : Nat → Int32) : ∃ ro', f_X1_findRoots (nI (zl c0 P).length) (nI P) ct ro = some ro' ∧ AR ro' (rt c0 P) P := by
  rw [f_X1_findRoots]
  have hdn : nI P - (1 : Int32) = dn_ P := by unfold dn_; rw [if_neg (by omega), nI_m1 hP1]
  rw [hdn]
  exact s_findRoots_12 hP hct hc10 FU P ro (Nat.le_refl _) (FU_ge (by omega)) (fun q h1 h2 => by omega)
theorem sub40 : ∀ r, r < 40 → nI r - (40 : Int32) < 0 := by decide
theorem dn_eq : ∀ a, a < 41 → ∀ b, b < 41 → (dn_ a = dn_ b ↔ a = b) := by decide +kernel
theorem dn_none : ∀ a, a < 41 → (dn_ a = (-1 : Int32) ↔ a = 0) := by decide +kernel
/-- needs told as ints -/
def ND (c0 : Nat → Nat) (P : Nat) (nd : Nat → Nat) (needs : Nat → Int32) : Prop := (∀ j, j < (zl c0 P).length → needs j = dn_ (nd j)) ∧ ∀ j, nd j ≤ P
def sees (P S : Nat) (fr ot : Nat → Nat) (x : Nat → Nat) : Prop := ∀ t, t < S → ou x P (fr t) = ot t
theorem sees_succ {i : Nat} {fr ot x : Nat → Nat} : sees P (i + 1) fr ot x ↔ sees P i fr ot x ∧ ou x P (fr i) = ot i := by
  constructor
  · intro h; exact ⟨fun t ht => h t (by omega), h i (by omega)⟩
  · intro h t ht
    by_cases e : t = i
    · rw [e]; exact h.2
    · exact h.1 t (by omega)
theorem s_takeNeeds_2 (hP : P ≤ 40) (hz : (zl c0 P).length ≤ 5) {S : Nat} (hS : S ≤ 6) {fr ot : Nat → Nat} {sf so : Nat → Int32} (hsf : ∀ i, i < S → fr i < P ∧ ot i < P ∧ sf i = nI (fr i) ∧ so i = nI (ot i)) (hrt : AR rts (rt c0 P) P) :
    ∀ (n i : Nat) (nd : Nat → Nat) (needs : Nat → Int32), i ≤ S → S - i < n → ND c0 P nd needs → (∀ x, fw c0 P x → (kpn c0 P nd 0 x = true ↔ sees P i fr ot x)) →
    ∃ r needs', f_X1_takeNeeds_2 (nI S) rts sf so n (nI i) needs = some (r, needs') ∧ ((r = 0 ∧ ∀ x, fw c0 P x → ¬ sees P S fr ot x) ∨ (r = 1 ∧ ∃ nd', ND c0 P nd' needs' ∧ ∀ x, fw c0 P x → (kpn c0 P nd' 0 x = true ↔ sees P S fr ot x))) := by
  intro n
  induction n with
  | zero => intro i nd needs h1 h2; omega
  | succ n ih =>
    intro i nd needs h1 h2 hnd hh
    rw [f_X1_takeNeeds_2]
    by_cases e : i = S
    · subst e
      rw [if_pos (ile (Nat.le_refl _) (by omega))]
      exact ⟨_, _, rfl, Or.inr ⟨rfl, nd, hnd, hh⟩⟩
    · obtain ⟨a1, a2, a3, a4⟩ := hsf i (by omega)
      have hr45 := rt_lt (c0 := c0) a1 hP hz
      rw [if_neg (inle (by omega) (by omega)), inB_t (by omega) (by omega), ck_t, ix_nI (by omega), a3, inB_t (by omega) (by omega), ck_t, ix_nI (by omega), a4, hrt _ a1, nI_p1]
      rcases rt_cases (c0 := c0) (fr i) a1 with hr | ⟨o, g1, g2, g3, g4⟩
      · rw [if_pos (sub40 _ (by omega))]
        by_cases e2 : rt c0 P (fr i) = ot i
        · rw [if_pos (by rw [e2])]
          refine ih (i + 1) nd needs (by omega) (by omega) hnd (fun x hx => ?_)
          rw [sees_succ, hh x hx]
          constructor
          · intro h; exact ⟨h, by rw [(rt_ou hx hP _ a1).1 hr, e2]⟩
          · intro h; exact h.1
        · rw [if_neg (ine e2 (by omega) (by omega))]
          refine ⟨_, _, rfl, Or.inl ⟨rfl, fun x hx hs => e2 ?_⟩⟩
          rw [← (rt_ou hx hP _ a1).1 hr]
          exact hs i (by omega)
      · have hso := sp_of g2 g3
        generalize ht : (zl c0 o).length = t at *
        have hou : ∀ x, fw c0 P x → ou x P (fr i) = ou x P (sp c0 P t) := fun x hx => by
          rw [hso.1]; exact (rt_ou hx hP _ a1).2 o g2 g3 (by rw [ht]; exact g4)
        have hsub : nI (40 + t) - (40 : Int32) = nI t := by
          have := l_sub (k := 40 + t) (j := 40) (by omega)
          rw [show 40 + t - 40 = t by omega] at this
          exact this
        have hndt := hnd.2 t
        rw [g4, hsub, if_neg (nI_pos (by omega)), if_pos (show nI t < (5 : Int32) from ilt (b := 5) (by omega) (by omega)), inB_t (by omega) (by omega), ck_t, ix_nI (by omega), hnd.1 t hso.2]
        by_cases e2 : nd t = 0
        · rw [if_pos ((dn_none _ (by omega)).mpr e2)]
          refine ih (i + 1) (chg nd t (ot i + 1)) _ (by omega) (by omega) ⟨fun j hj => ?_, fun j => ?_⟩ (fun x hx => ?_)
          · rw [upd_at]
            unfold chg
            by_cases e3 : j = t
            · rw [if_pos e3, if_pos e3, dn_s]
            · rw [if_neg e3, if_neg e3]; exact hnd.1 j hj
          · unfold chg
            by_cases e3 : j = t
            · rw [if_pos e3]; omega
            · rw [if_neg e3]; exact hnd.2 j
          · rw [sees_succ, ← hh x hx, kpn_t, kpn_t, hou x hx]
            constructor
            · intro h
              refine ⟨fun j hj hk h0 => ?_, ?_⟩
              · have e3 : j ≠ t := fun q => h0 (by rw [q]; exact e2)
                have h4 := h j hj hk (by unfold chg; rw [if_neg e3]; exact h0)
                unfold chg at h4
                rw [if_neg e3] at h4
                exact h4
              · have h4 := h t hso.2 (Nat.zero_le _) (by unfold chg; rw [if_pos rfl]; omega)
                unfold chg at h4
                rw [if_pos rfl] at h4
                omega
            · intro h j hj hk h0
              unfold chg at h0 ⊢
              by_cases e3 : j = t
              · rw [if_pos e3, e3, h.2]
              · rw [if_neg e3] at h0 ⊢; exact h.1 j hj hk h0
        · rw [if_neg (fun q => e2 ((dn_none _ (by omega)).mp q)), ← dn_s (ot i)]
          by_cases e4 : nd t = ot i + 1
          · rw [if_pos ((dn_eq _ (by omega) _ (by omega)).mpr e4)]
            refine ih (i + 1) nd needs (by omega) (by omega) hnd (fun x hx => ?_)
            rw [sees_succ, ← hh x hx, hou x hx]
            constructor
            · intro h
              refine ⟨h, ?_⟩
              have := kpn_t.mp h t hso.2 (Nat.zero_le _) e2
              omega
            · intro h; exact h.1
          · rw [if_neg (fun q => e4 ((dn_eq _ (by omega) _ (by omega)).mp q))]
            refine ⟨_, _, rfl, Or.inl ⟨rfl, fun x hx hs => e4 ?_⟩⟩
            have h5 := (hh x hx).mpr (fun u hu => hs u (by omega))
            have h6 := kpn_t.mp h5 t hso.2 (Nat.zero_le _) e2
            have h7 := hs i (by omega)
            rw [hou x hx] at h7
            omega
end GU
