/-! ===== fits and drawn: the reference's sums, and both ===== -/
section FT
variable {P B C : Nat} {tx : Nat → Int32} {tk : Nat → Nat}
theorem s_areSeen_4 (hP : P ≤ 40) {S : Nat} (hS : S ≤ 6) {fr ot x : Nat → Nat} {sight sf so ct : Nat → Int32} (hsi : SI sight sf so) (hsf : ∀ i, i < S → fr i < P ∧ ot i < P ∧ sf i = nI (fr i) ∧ so i = nI (ot i)) (hx : okc x P) (hct : AR ct x P) :
    ∀ (n i : Nat) (b : Bool), i ≤ S → S - i < n → (b = true ↔ sees P i fr ot x) → f_X6_areSeen_4 (nI P) (nI S) sight ct n (b01 b) (nI i) = some (b01 (seesB P S fr ot x)) := by
  intro n
  induction n with
  | zero => intro i b h1 h2; omega
  | succ n ih =>
    intro i b h1 h2 hb
    rw [f_X6_areSeen_4]
    by_cases e : i = S
    · subst e
      have hbb : b = seesB P i fr ot x := by rw [Bool.eq_iff_iff, hb, seesB_t]
      rw [if_pos (ile (Nat.le_refl _) (by omega)), show isB (b01 b) = true by cases b <;> decide, ck_t, hbb]
    · rw [if_neg (inle (by omega) (by omega)), nI_p1]
      have e2 : (2 : Int32) * nI i = nI (2 * i) := pk_mul 2 i
      obtain ⟨a1, a2, a3, a4⟩ := hsf i (by omega)
      cases b with
      | false =>
        rw [if_pos (show b01 false = 0 by decide)]
        exact ih (i + 1) false (by omega) (by omega) (by rw [sees_succ, ← hb]; constructor <;> intro h <;> simp at h)
      | true =>
        have hs := hb.mp rfl
        have hl := ou_in hx _ a1
        rw [if_neg (show ¬ b01 true = 0 by decide), e2, inB_t (by omega) (by omega), ck_t, ix_nI (by omega), (hsi i (by omega)).1, a3, s_outOf' hx hP hct a1, bd_s, nI_p1, inB_t (by omega) (by omega), ck_t, ix_nI (by omega), (hsi i (by omega)).2, a4]
        by_cases e3 : ou x P (fr i) = ot i
        · rw [if_pos (by rw [e3])]
          exact ih (i + 1) true (by omega) (by omega) (by rw [sees_succ]; exact ⟨fun _ => ⟨hs, e3⟩, fun _ => rfl⟩)
        · rw [if_neg (ine e3 (by omega) (by omega))]
          exact ih (i + 1) false (by omega) (by omega) (by
            rw [sees_succ]
            constructor
            · intro h; cases h
            · intro h; exact absurd h.2 e3)
theorem s_areSeen (hP : P ≤ 40) {S : Nat} (hS : S ≤ 6) {fr ot x : Nat → Nat} {sight sf so ct : Nat → Int32} (hsi : SI sight sf so) (hsf : ∀ i, i < S → fr i < P ∧ ot i < P ∧ sf i = nI (fr i) ∧ so i = nI (ot i)) (hx : okc x P) (hct : AR ct x P) : f_X6_areSeen (nI P) (nI S) sight ct = some (b01 (seesB P S fr ot x)) :=
  s_areSeen_4 hP hS hsi hsf hx hct FU 0 true (Nat.zero_le _) (FU_ge (by omega)) ⟨fun _ t ht => by omega, fun _ => rfl⟩
theorem prd_w1 (w : Nat → Nat) : ∀ l : List Nat, prd (w1 w) l = if prd w l = 0 then 0 else 1
  | [] => rfl
  | d :: l => by
    rw [prd, prd, prd_w1 w l]
    unfold w1
    by_cases e : w d = 0
    · rw [if_pos e, e, Nat.zero_mul, Nat.zero_mul]; rfl
    · rw [if_neg e, Nat.one_mul]
      by_cases e2 : prd w l = 0
      · rw [if_pos e2, e2, Nat.mul_zero]; rfl
      · rw [if_neg e2, if_neg]
        intro h
        rcases Nat.mul_eq_zero.mp h with h | h
        · exact e h
        · exact e2 h
theorem s_fits_24 (hP : P ≤ 40) {c w : Nat → Nat} {wt on sight sf so : Nat → Int32} (hw : WG wt w) (hz : (zl c P).length ≤ 5) (hc : ∀ q, q < P → q ∉ zl c P → 1 ≤ c q ∧ c q ≤ 10) (hon : ∀ (i o : Nat), (zl c P)[i]? = some o → on i = nI o) {S : Nat} (hS : S ≤ 6) {fr ot : Nat → Nat} (hsi : SI sight sf so) (hsf : ∀ i, i < S → fr i < P ∧ ot i < P ∧ sf i = nI (fr i) ∧ so i = nI (ot i)) :
    ∀ (n i : Nat) (ct : Nat → Int32), i ≤ 10 ^ (zl c P).length → 10 ^ (zl c P).length - i < n → (∀ q, q < P → q ∉ zl c P → ct q = nI (c q)) →
    ∃ ct', f_X6_fits_24 (nI P) (nI S) wt sight n (nI (itr (FF (seesB P S fr ot) (w1 w) c (zl c P)) i 0)) (nI i) (nI (zl c P).length) ct on = some (nI (nsw (seesB P S fr ot) (w1 w) (zl c P) c), nI (zl c P).length, ct', on) := by
  have h10 := pow5 hz
  intro n
  induction n with
  | zero => intro i ct h1 h2; omega
  | succ n ih =>
    intro i ct h1 h2 hct
    rw [f_X6_fits_24, s_codes hz, bd_s]
    by_cases e : i = 10 ^ (zl c P).length
    · rw [if_pos (ile (by omega) (by omega)), e, FF_all]
      exact ⟨ct, rfl⟩
    · obtain ⟨ct', k1, k2⟩ := s_writeIn (zs := zl c P) (on := on) (wt := wt) (ct := ct) (w := w) (c := c) (code := i) hP rfl hz (fun o ho => (zl_mem.mp ho).1) (zl_nd c P) hon hw.1 (by omega) hct
      have hpr := prd_dgt_le (w := w) (fun d d1 d2 => (hw.1 d d1 d2).2) hz i
      have hoc : okc (asg c (zl c P) (dgt (zl c P).length i)) P := asg_okc (c := c) (zl c P) _ c (dgt_len _ _).symm hc (dgt_in _ _)
      have hct' : ∀ q, q < P → q ∉ zl c P → ct' q = nI (c q) := fun q hq hn => by rw [k2 q hq, asg_out _ _ _ _ hn]
      rw [if_neg (inle (by omega) (by omega)), k1, bd_s]
      dsimp only
      have hst : itr (FF (seesB P S fr ot) (w1 w) c (zl c P)) (i + 1) 0 = itr (FF (seesB P S fr ot) (w1 w) c (zl c P)) i 0 + prd (w1 w) (dgt (zl c P).length i) * (if seesB P S fr ot (asg c (zl c P) (dgt (zl c P).length i)) = true then 1 else 0) := by
        rw [itr, FF, Nat.one_mul]
      have ih' := ih (i + 1) ct' (by omega) (by omega) hct'
      rw [hst, prd_w1] at ih'
      have z32 : ∀ m : Nat, nI m + (0 : Int32) = nI (m + 0) := fun m => nI_add m 0
      have o32 : ∀ m : Nat, nI m + (1 : Int32) = nI (m + 1) := fun m => nI_add m 1
      rw [o32 i]
      by_cases e2 : prd w (dgt (zl c P).length i) = 0
      · rw [if_pos e2, Nat.zero_mul] at ih'
        rw [if_pos ((nI_le0 (by omega)).mpr e2), z32]
        exact ih'
      · rw [if_neg e2, Nat.one_mul] at ih'
        rw [if_neg (fun q => e2 ((nI_le0 (by omega)).mp q)), s_areSeen hP hS hsi hsf hoc k2, bd_s]
        cases hb : seesB P S fr ot (asg c (zl c P) (dgt (zl c P).length i)) with
        | false =>
          rw [hb, if_neg (by decide)] at ih'
          rw [if_pos (show b01 false = 0 by decide), z32]
          exact ih'
        | true =>
          rw [hb, if_pos rfl] at ih'
          rw [if_neg (show ¬ b01 true = 0 by decide), o32]
          exact ih'
theorem s_drawn_73 (hP : P ≤ 40) {c w : Nat → Nat} {wt on sight sf so : Nat → Int32} (hw : WG wt w) (hz : (zl c P).length ≤ 5) (hc : ∀ q, q < P → q ∉ zl c P → 1 ≤ c q ∧ c q ≤ 10) (hon : ∀ (i o : Nat), (zl c P)[i]? = some o → on i = nI o) {S : Nat} (hS : S ≤ 6) {fr ot : Nat → Nat} (hsi : SI sight sf so) (hsf : ∀ i, i < S → fr i < P ∧ ot i < P ∧ sf i = nI (fr i) ∧ so i = nI (ot i))
    {s a : Nat} (hs : s < (zl c P).length) (ha : a ≤ 10) (p3 : Int32) :
    ∀ (n i : Nat) (ct : Nat → Int32), i ≤ 10 ^ (zl c P).length → 10 ^ (zl c P).length - i < n → (∀ q, q < P → q ∉ zl c P → ct q = nI (c q)) →
    ∃ ct', f_X6_drawn_73 (nI s) (nI a) p3 (nI P) (nI S) wt sight n (lN (itr (FF (fun x => seesB P S fr ot x && decide (x (sp c P s) = a)) w c (zl c P)) i 0)) (lN (itr (FF (seesB P S fr ot) w c (zl c P)) i 0)) (nI i) (nI (zl c P).length) ct on
      = if (lg_cmp (lN (nsw (seesB P S fr ot) w (zl c P) c)) (0 : Int64)) = 0 then some ((-1000000000000000003 : Int64), nI (zl c P).length, ct', on) else Option.bind (f_X6_term (lN (nsw (fun x => seesB P S fr ot x && decide (x (sp c P s) = a)) w (zl c P) c)) (lN (nsw (seesB P S fr ot) w (zl c P) c)) p3) (fun r => some (r, nI (zl c P).length, ct', on)) := by
  have h10 := pow5 hz
  obtain ⟨sq1, sq2, sq3⟩ := sp_in hs
  intro n
  induction n with
  | zero => intro i ct h1 h2; omega
  | succ n ih =>
    intro i ct h1 h2 hct
    rw [f_X6_drawn_73, s_codes hz, bd_s]
    by_cases e : i = 10 ^ (zl c P).length
    · rw [if_pos (ile (by omega) (by omega)), e, FF_all, FF_all]
      exact ⟨ct, rfl⟩
    · obtain ⟨ct', k1, k2⟩ := s_writeIn (zs := zl c P) (on := on) (wt := wt) (ct := ct) (w := w) (c := c) (code := i) hP rfl hz (fun o ho => (zl_mem.mp ho).1) (zl_nd c P) hon hw.1 (by omega) hct
      have hpr := prd_dgt_le (w := w) (fun d d1 d2 => (hw.1 d d1 d2).2) hz i
      have hoc : okc (asg c (zl c P) (dgt (zl c P).length i)) P := asg_okc (c := c) (zl c P) _ c (dgt_len _ _).symm hc (dgt_in _ _)
      have hct' : ∀ q, q < P → q ∉ zl c P → ct' q = nI (c q) := fun q hq hn => by rw [k2 q hq, asg_out _ _ _ _ hn]
      rw [if_neg (inle (by omega) (by omega)), k1, bd_s]
      dsimp only
      have hst : ∀ φ : (Nat → Nat) → Bool, itr (FF φ w c (zl c P)) (i + 1) 0 = itr (FF φ w c (zl c P)) i 0 + prd w (dgt (zl c P).length i) * (if φ (asg c (zl c P) (dgt (zl c P).length i)) = true then 1 else 0) := fun φ => by
        rw [itr, FF, Nat.one_mul]
      have ih' := ih (i + 1) ct' (by omega) (by omega) hct'
      rw [hst, hst] at ih'
      have z64 : ∀ m : Nat, lN m + (0 : Int64) = lN (m + 0) := fun m => lN_add m 0
      rw [nI_p1]
      by_cases e2 : prd w (dgt (zl c P).length i) = 0
      · rw [e2, Nat.zero_mul, Nat.zero_mul, Nat.add_zero, Nat.add_zero] at ih'
        rw [if_pos ((nI_le0 (by omega)).mpr e2)]
        exact ih'
      · rw [if_neg (fun q => e2 ((nI_le0 (by omega)).mp q)), s_areSeen hP hS hsi hsf hoc k2, bd_s]
        cases hb : seesB P S fr ot (asg c (zl c P) (dgt (zl c P).length i)) with
        | false =>
          rw [hb, Bool.false_and, if_neg (by decide), Nat.mul_zero, Nat.add_zero, Nat.add_zero] at ih'
          rw [if_pos (show b01 false = 0 by decide)]
          exact ih'
        | true =>
          have hd := hoc (sp c P s) sq1
          rw [hb, Bool.true_and, if_pos (show true = true from rfl), Nat.mul_one] at ih'
          rw [if_neg (show ¬ b01 true = 0 by decide), inB_t (by omega) (by omega), ck_t, ix_nI (by omega), hon s _ (sp_get hs), inB_t (by omega) (by omega), ck_t, ix_nI (by omega), nI_l (by omega), lN_add]
          by_cases e3 : asg c (zl c P) (dgt (zl c P).length i) (sp c P s) = a
          · rw [if_pos (decide_eq_true e3), Nat.mul_one] at ih'
            rw [if_pos (show ct' (sp c P s) = nI a by rw [k2 _ sq1, e3]), lN_add]
            exact ih'
          · rw [if_neg (fun q => e3 (of_decide_eq_true q)), Nat.mul_zero] at ih'
            rw [if_neg (show ¬ ct' (sp c P s) = nI a by rw [k2 _ sq1]; exact ine e3 (by omega) (by omega)), z64, lN_add]
            exact ih'
theorem nsu_nsw {φ : (Nat → Nat) → Bool} {u : Nat → Nat → Nat} {w : Nat → Nat} : ∀ (zs : List Nat) (j : Nat) (c : Nat → Nat), (∀ k d, j ≤ k → u k d = w d) → nsu φ u zs j c = nsw φ w zs c := by
  intro zs
  induction zs with
  | nil => intro j c h; rfl
  | cons o os ih =>
    intro j c h
    rw [nsu, nsw]
    apply fb_sm_cong
    intro d _
    rw [h j _ (Nat.le_refl _), ih (j + 1) _ (fun k d hk => h k d (by omega))]
theorem nsu_asked {φ : (Nat → Nat) → Bool} {w : Nat → Nat} {s a : Nat} : ∀ (zs : List Nat) (j i o : Nat) (c : Nat → Nat), zs.Nodup → s = j + i → zs[i]? = some o → nsu φ (u3 w s a) zs j c = nsw (fun x => φ x && decide (x o = a)) w zs c := by
  intro zs
  induction zs with
  | nil => intro j i o c hn hs h; simp at h
  | cons o' os ih =>
    intro j i o c hn hs h
    rw [nsu, nsw]
    apply fb_sm_cong
    intro d _
    cases i with
    | zero =>
      have ho : o' = o := by simpa using h
      subst ho
      rw [nsu_nsw (w := w) os (j + 1) _ (fun k d hk => by unfold u3; rw [if_neg (by omega)])]
      have hx := nsw_ext (w := w) (φ := fun x => φ x && decide (x o' = a)) (ψ := fun x => φ x && decide (d + 1 = a)) (Q := fun x => x o' = d + 1) os (chg c o' (d + 1)) (fun x o2 d2 hx ho2 => by
        unfold chg
        rw [if_neg (fun e => (List.nodup_cons.mp hn).1 (by rw [e]; exact ho2))]
        exact hx) (by unfold chg; rw [if_pos rfl]) (fun x hx => by rw [hx])
      rw [hx]
      unfold u3
      rw [if_pos (by omega)]
      by_cases e : d + 1 = a
      · rw [if_pos e, decide_eq_true e]
        congr 2
        funext x
        rw [Bool.and_true]
      · rw [if_neg e, decide_eq_false e, nsw_false _ _ (fun x => Bool.and_false _), Nat.mul_zero, Nat.zero_mul]
    | succ i =>
      rw [show u3 w s a j (d + 1) = w (d + 1) by unfold u3; rw [if_neg (by omega)], ih (j + 1) i o _ (List.nodup_cons.mp hn).2 (by omega) (by simpa using h)]
theorem nsw_zero {φ : (Nat → Nat) → Bool} {w : Nat → Nat} : ∀ (zs : List Nat) (c : Nat → Nat), nsw φ (w1 w) zs c = 0 ↔ nsw φ w zs c = 0 := by
  intro zs
  induction zs with
  | nil => intro c; rw [nsw, nsw]
  | cons o os ih =>
    intro c
    rw [nsw, nsw]
    constructor
    · intro h
      apply sm_none
      intro d hd
      have h1 := fb_sm_zero h d hd
      rcases Nat.mul_eq_zero.mp h1 with h2 | h2
      · unfold w1 at h2
        by_cases e : w (d + 1) = 0
        · rw [e, Nat.zero_mul]
        · rw [if_neg e] at h2; omega
      · rw [(ih _).mp h2, Nat.mul_zero]
    · intro h
      apply sm_none
      intro d hd
      have h1 := fb_sm_zero h d hd
      rcases Nat.mul_eq_zero.mp h1 with h2 | h2
      · rw [show w1 w (d + 1) = 0 by unfold w1; rw [if_pos h2], Nat.zero_mul]
      · rw [(ih _).mpr h2, Nat.mul_zero]
theorem t_fits (h : PG P B C tx tk) {wt : Nat → Int32} {w : Nat → Nat} (hw : WG wt w) {S : Nat} (hS : S ≤ 6) {sight sf so : Nat → Int32} (hsi : SI sight sf so) (hsb : ∀ i, i < S → ∃ f o, f < P ∧ o < P ∧ sf i = nI f ∧ so i = nI o) (bg rp rb : Int32) (r1 : Nat → Int32) (g1 g2 g3 g4 g5 g6 g7 : Int32) (g8 g9 : Int64) (wx sp0 nd0 rt0 : Nat → Int32) (op : Int32) (m1 m2 : Nat → Int32) :
    ∃ a v u, f_X5_fits (nI P) bg (nI C) (nI S) tx rp rb r1 g1 g2 g3 g4 g5 g6 g7 g8 g9 wt wx sp0 nd0 rt0 sf so = some (a, v) ∧ f_X6_fits (nI P) (nI C) (nI S) op tx m1 m2 wt sight = some (a, u) := by
  obtain ⟨hs, hP1, hP, hB1, hB, hBP, hC1, hC, hk, h4, h5⟩ := id h
  rw [f_X5_fits, f_X6_fits, s_howMany _ _ hP, s_many _ _ hP, bd_s, bd_s]
  by_cases h42 : cnS tx 42 P = 0
  · rw [if_pos ((nI_le0 (by omega)).mpr h42), if_pos ((nI_le0 (by omega)).mpr h42)]
    have hl : (zl (ctf tk C) P).length ≤ 5 := by rw [h.zl42 hC1]; omega
    have hcq : ∀ q, q < P → q ∉ zl (ctf tk C) P → 1 ≤ ctf tk C q ∧ ctf tk C q ≤ 10 := fun q hq hn => by
      refine ⟨?_, cOf_le hC⟩
      rcases Nat.eq_zero_or_pos (ctf tk C q) with e | e
      · exact absurd (zl_mem.mpr ⟨hq, e⟩) hn
      · exact e
    have hsf : ∀ i, i < S → ix (sf i) < P ∧ ix (so i) < P ∧ sf i = nI (ix (sf i)) ∧ so i = nI (ix (so i)) := fun i hi => by
      obtain ⟨f, o, q1, q2, q3, q4⟩ := hsb i hi
      rw [q3, q4, ix_nI (by omega), ix_nI (by omega)]
      exact ⟨q1, q2, rfl, rfl⟩
    obtain ⟨v1, v2, v3, v4, v5, v6, v9, v10, v11, v12, k1⟩ := s_seekG (c0 := ctf tk C) (s := 7) (a := 0) (aS := -1) (aC := 0) hP1 hP hl hw (AR_fill (ctf tk C) r1 P) (fun q _ => cOf_le hC) hS hsf (by decide) (fun q => by omega) g1 g5 g6 g7 g8 g9 wx sp0 nd0 rt0
    obtain ⟨ct', k2⟩ := s_fits_24 hP hw hl hcq (opf_at (o0 := m2)) hS hsi hsf FU 0 (fa_fill (fun j => nI (ctf tk C j)) m1 P) (Nat.zero_le _) (FU_ge (by have := pow5 hl; omega)) (fun q hq _ => AR_fill _ _ _ q hq)
    have k2' : f_X6_fits_24 (nI P) (nI S) wt sight FU (0 : Int32) (0 : Int32) (nI (zl (ctf tk C) P).length) (fa_fill (fun j => nI (ctf tk C j)) m1 P) (opf (ctf tk C) m2 P) = _ := k2
    rw [s_read hs.p hP, bd_s, s_lay hs.p hP hC hl, bd_s]
    dsimp only
    rw [k1, k2', bd_s]
    rw [nsu_nsw (u := u1 w) (w := w1 w) _ _ _ (fun k d _ => rfl)]
    exact ⟨_, _, _, rfl, rfl⟩
  · rw [if_neg (fun q => h42 ((nI_le0 (by omega)).mp q)), if_neg (fun q => h42 ((nI_le0 (by omega)).mp q))]
    exact ⟨_, _, _, rfl, rfl⟩
theorem askIn {D : Nat} (hD : D ≤ 5) (x : Int32) : ((0 : Int32) ≤ x ∧ x ≤ nI D - (1 : Int32)) ↔ ∃ j, j < D ∧ x = nI j := by
  have hdn : nI D - (1 : Int32) = dn_ D := by
    unfold dn_
    by_cases e : D = 0
    · subst e; rfl
    · rw [if_neg e, nI_m1 (by omega)]
  rw [hdn]
  constructor
  · rintro ⟨h1, h2⟩
    cases D with
    | zero =>
      exfalso
      rw [fa_le] at h1 h2
      have : (0 : Int32).toInt = 0 := rfl
      have : (dn_ 0).toInt = -1 := rfl
      omega
    | succ D =>
      rw [dn_s] at h2
      obtain ⟨j, hj, e⟩ := nI_of2 (n := D) (nI_toInt (by omega)) (nlt_of_le h1) h2
      exact ⟨j, by omega, e⟩
  · rintro ⟨j, hj, rfl⟩
    obtain ⟨D', rfl⟩ : ∃ D', D = D' + 1 := ⟨D - 1, by omega⟩
    rw [dn_s]
    exact ⟨nI_pos' (by omega), ile (by omega) (by omega)⟩
theorem t_drawn (h : PG P B C tx tk) {wt : Nat → Int32} {w : Nat → Nat} (hw : WG wt w) {S : Nat} (hS : S ≤ 6) {sight sf so : Nat → Int32} (hsi : SI sight sf so) (hsb : ∀ i, i < S → ∃ f o, f < P ∧ o < P ∧ sf i = nI f ∧ so i = nI o) (x y z : Int32) (bg rp rb : Int32) (r1 : Nat → Int32) (g1 g2 g3 g4 g5 g6 g7 : Int32) (g8 g9 : Int64) (wx sp0 nd0 rt0 : Nat → Int32) (op : Int32) (m1 m2 : Nat → Int32) :
    ∃ a v u, f_X5_drawn x y z (nI P) bg (nI C) (nI S) tx rp rb r1 g1 g2 g3 g4 g5 g6 g7 g8 g9 wt wx sp0 nd0 rt0 sf so = some (a, v) ∧ f_X6_drawn x y z (nI P) (nI C) (nI S) op tx m1 m2 wt sight = some (a, u) := by
  obtain ⟨hs, hP1, hP, hB1, hB, hBP, hC1, hC, hk, h4, h5⟩ := id h
  rw [f_X5_drawn, f_X6_drawn, s_howMany _ _ hP, s_many _ _ hP, s_isCount, s_isPart, s_howMany _ _ hP, s_many _ _ hP]
  simp only [bd_s, s_in, ite10]
  by_cases hx : ∃ j, j < cnS tx 63 P ∧ x = nI j
  · rw [if_pos ((askIn h5 x).mpr hx)]
    obtain ⟨s, hs5, rfl⟩ := hx
    rw [if_neg (nI_pos (by omega)), if_neg (inle hs5 (by omega))]
    by_cases hy : (1 : Int32) ≤ y ∧ y ≤ 10
    · rw [if_pos hy, if_pos hy]
      by_cases hz : (0 : Int32) ≤ z ∧ z ≤ 1
      · rw [if_pos hz, if_pos hz]
        by_cases h42 : cnS tx 42 P = 0
        · rw [if_pos ((nI_le0 (by omega)).mpr h42), if_pos ((nI_le0 (by omega)).mpr h42)]
          obtain ⟨a, ha, rfl⟩ : ∃ j, j ≤ 10 ∧ y = nI j := nI_of2 (n := 10) (nI_toInt (by omega)) (fun q => by
            have h1 := hy.1
            rw [fa_lt] at q; rw [fa_le] at h1
            have : (1 : Int32).toInt = 1 := rfl
            have : (0 : Int32).toInt = 0 := rfl
            omega) hy.2
          have ha1 : 1 ≤ a := Classical.byContradiction (fun q => inle (b := 1) (show a < 1 by omega) (by omega) hy.1)
          have hlen := h.zl42 hC1
          have hl : (zl (ctf tk C) P).length ≤ 5 := by rw [hlen]; omega
          have hsl : s < (zl (ctf tk C) P).length := by omega
          have hcq : ∀ q, q < P → q ∉ zl (ctf tk C) P → 1 ≤ ctf tk C q ∧ ctf tk C q ≤ 10 := fun q hq hn => by
            refine ⟨?_, cOf_le hC⟩
            rcases Nat.eq_zero_or_pos (ctf tk C q) with e | e
            · exact absurd (zl_mem.mpr ⟨hq, e⟩) hn
            · exact e
          have hsf : ∀ i, i < S → ix (sf i) < P ∧ ix (so i) < P ∧ sf i = nI (ix (sf i)) ∧ so i = nI (ix (so i)) := fun i hi => by
            obtain ⟨f, o, q1, q2, q3, q4⟩ := hsb i hi
            rw [q3, q4, ix_nI (by omega), ix_nI (by omega)]
            exact ⟨q1, q2, rfl, rfl⟩
          obtain ⟨v1, v2, v3, v4, v5, v6, v9, v10, v11, v12, k1⟩ := s_seekG (c0 := ctf tk C) (s := s) (a := a) (aS := nI s) (aC := nI a) hP1 hP hl hw (AR_fill (ctf tk C) r1 P) (fun q _ => cOf_le hC) hS hsf (fun k hk5 => ieq_iff (by omega) (by omega)) (fun _ => ⟨rfl, ha1, ha⟩) g1 g5 g6 g7 g8 g9 wx sp0 nd0 rt0
          obtain ⟨ct', k2⟩ := s_drawn_73 hP hw hl hcq (opf_at (o0 := m2)) hS hsi hsf hsl ha z FU 0 (fa_fill (fun j => nI (ctf tk C j)) m1 P) (Nat.zero_le _) (FU_ge (by have := pow5 hl; omega)) (fun q hq _ => AR_fill _ _ _ q hq)
          have k2' : f_X6_drawn_73 (nI s) (nI a) z (nI P) (nI S) wt sight FU (0 : Int64) (0 : Int64) (0 : Int32) (nI (zl (ctf tk C) P).length) (fa_fill (fun j => nI (ctf tk C j)) m1 P) (opf (ctf tk C) m2 P) = _ := k2
          rw [s_read hs.p hP, bd_s, s_lay hs.p hP hC hl, bd_s]
          dsimp only
          rw [k1, k2', bd_s]
          dsimp only
          rw [nsu_nsw (u := u1 w) (w := w1 w) _ _ _ (fun k d _ => rfl), nsu_nsw (u := u2 w) (w := w) _ _ _ (fun k d _ => rfl), nsu_asked (zl (ctf tk C) P) 0 s (sp (ctf tk C) P s) _ (zl_nd _ _) (by omega) (sp_get hsl)]
          have hlow := hw.low hl
          have hup1 : ∀ φ, nsw φ w (zl (ctf tk C) P) (ctf tk C) < 2 ^ 18 := fun φ => Nat.lt_of_le_of_lt (nsw_le _ _) hlow.2
          have hsw1 : SW (w1 w) ≤ SW w := fb_sm_le (fun d _ => (w1_le w _).1)
          have hup0 : nsw (seesB P S (fun i => ix (sf i)) (fun i => ix (so i))) (w1 w) (zl (ctf tk C) P) (ctf tk C) < 2 ^ 18 := Nat.lt_of_le_of_lt (Nat.le_trans (nsw_le _ _) (Nat.pow_le_pow_left hsw1 _)) hlow.2
          have hz0 := nsw_zero (φ := seesB P S (fun i => ix (sf i)) (fun i => ix (so i))) (w := w) (zl (ctf tk C) P) (ctf tk C)
          have hA := hup1 (seesB P S (fun i => ix (sf i)) (fun i => ix (so i)))
          have hB2 := hup1 (fun x => seesB P S (fun i => ix (sf i)) (fun i => ix (so i)) x && decide (x (sp (ctf tk C) P s) = a))
          generalize nsw (seesB P S (fun i => ix (sf i)) (fun i => ix (so i))) (w1 w) (zl (ctf tk C) P) (ctf tk C) = N1 at *
          generalize nsw (seesB P S (fun i => ix (sf i)) (fun i => ix (so i))) w (zl (ctf tk C) P) (ctf tk C) = N2 at *
          generalize nsw (fun x => seesB P S (fun i => ix (sf i)) (fun i => ix (so i)) x && decide (x (sp (ctf tk C) P s) = a)) w (zl (ctf tk C) P) (ctf tk C) = N3 at *
          by_cases e : N2 = 0
          · rw [if_pos (by rw [hz0.mpr e]; rfl), if_pos ((lgz (by omega)).mpr e)]
            exact ⟨_, _, _, rfl, rfl⟩
          · rw [if_neg (show ¬ nI N1 = 0 by rw [q_0]; exact ine (fun q => e (hz0.mp q)) (by omega) (by omega)), if_neg (fun q => e ((lgz (by omega)).mp q))]
            obtain ⟨r, f1, f2⟩ := s_frac hB2 hA (by omega) z
            rw [f1, f2, bd_s, bd_s]
            exact ⟨_, _, _, rfl, rfl⟩
        · rw [if_neg (fun q => h42 ((nI_le0 (by omega)).mp q)), if_neg (fun q => h42 ((nI_le0 (by omega)).mp q))]
          exact ⟨_, _, _, rfl, rfl⟩
      · rw [if_neg hz, if_neg hz]; exact ⟨_, _, _, rfl, rfl⟩
    · rw [if_neg hy, if_neg hy]; exact ⟨_, _, _, rfl, rfl⟩
  · rw [if_neg (fun q => hx ((askIn h5 x).mp q))]
    by_cases h0 : x < 0
    · rw [if_pos h0]; exact ⟨_, _, _, rfl, rfl⟩
    · rcases i32_cases x (n := cnS tx 63 P) (by omega) with q | q | q
      · exact absurd q h0
      · rw [if_neg h0, if_pos q]; exact ⟨_, _, _, rfl, rfl⟩
      · exact absurd q hx
end FT
