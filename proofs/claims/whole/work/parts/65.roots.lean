/-! ===== fits and drawn: the spots ===== -/
def ndf (n0 : Nat → Int32) (k : Nat) : Nat → Int32 := fun j => if j < k then -1 else n0 j
theorem ndf_succ (n0 : Nat → Int32) (k : Nat) : upd (ndf n0 k) k (-1) = ndf n0 (k + 1) := by
  funext j
  rw [upd_at]
  unfold ndf
  by_cases e : j = k
  · rw [if_pos e, if_pos (by omega)]
  · rw [if_neg e]
    by_cases e2 : j < k
    · rw [if_pos e2, if_pos (by omega)]
    · rw [if_neg e2, if_neg (by omega)]
theorem s_findSpots_7 {c0 : Nat → Nat} {P : Nat} {ct : Nat → Int32} (hP : P ≤ 40) (hct : AR ct c0 P) (hc10 : ∀ q, q < P → c0 q ≤ 10) (hz : (zl c0 P).length ≤ 5) (s0 n0 : Nat → Int32) : ∀ (n i : Nat), i ≤ P → P - i < n →
    f_X1_findSpots_7 (nI P) ct n (nI i) (nI (zl c0 i).length) (opf c0 s0 i) (ndf n0 (zl c0 i).length) = some (nI (zl c0 P).length, opf c0 s0 P, ndf n0 (zl c0 P).length) := by
  intro n
  induction n with
  | zero => intro i h1 h2; omega
  | succ n ih =>
    intro i h1 h2
    rw [f_X1_findSpots_7]
    by_cases e : i = P
    · subst e; rw [if_pos (ile (Nat.le_refl _) (by omega))]
    · have h10 := hc10 i (by omega)
      have ih' := ih (i + 1) (by omega) (by omega)
      rw [if_neg (inle (by omega) (by omega)), inB_t (by omega) (by omega), ck_t, ix_nI (by omega), hct i (by omega), nI_p1]
      by_cases h0 : c0 i = 0
      · have h3 : (zl c0 (i + 1)).length ≤ (zl c0 P).length := by rw [zl_len, zl_len]; exact fb_ct_mono _ (by omega)
        rw [len_next h0] at h3 ih'
        rw [h0, if_pos (show nI 0 = 0 from rfl), if_neg (show ¬ (5 : Int32) ≤ nI (zl c0 i).length from inle (b := 5) (by omega) (by omega)), inB_t (show (zl c0 i).length < 5 by omega) (by omega), ck_t, ix_nI (by omega), ndf_succ, opf_succ h0, nI_p1]
        exact ih'
      · have hlen : zl c0 (i + 1) = zl c0 i := by rw [zl_succ, if_neg h0, List.append_nil]
        rw [hlen, opf_same h0] at ih'
        rw [if_neg (show ¬ nI (c0 i) = 0 by rw [q_0]; exact ine h0 (by omega) (by omega))]
        exact ih'
