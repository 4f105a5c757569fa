def okk (k : Nat) : Prop := (49 ≤ k ∧ k ≤ 57) ∨ k = 84 ∨ k = 65 ∨ k = 74 ∨ k = 81 ∨ k = 75 ∨ k = 42 ∨ k = 63
/-- a page as it always is: its signs, its beginnings, its court -/
def PG (P B C : Nat) (tx : Nat → Int32) (tk : Nat → Nat) : Prop := SG tx tk ∧ 1 ≤ P ∧ P ≤ 40 ∧ 1 ≤ B ∧ B ≤ 10 ∧ B ≤ P ∧ 1 ≤ C ∧ C ≤ 10 ∧ (∀ i, i < P → okk (tk i)) ∧ cnS tx 42 P ≤ 4 ∧ cnS tx 63 P ≤ 5
theorem cnS_tk {tx : Nat → Int32} {tk : Nat → Nat} (hs : SG tx tk) {k : Nat} (hk : k < 65536) (P : Nat) : cnS tx (nI k) P = fb_ct (fun j => decide (tk j = k)) P := by
  unfold cnS
  apply fb_ct_cong
  intro j _
  have := hs j
  rw [this.1]
  by_cases h : tk j = k
  · rw [decide_eq_true h, decide_eq_true (by rw [h])]
  · rw [decide_eq_false h, decide_eq_false (ine h (by omega) (by omega))]
theorem cOf_pos {k C : Nat} (h : okk k) (hC : 1 ≤ C) : cOf k C = 0 ↔ k = 42 ∨ k = 63 := by
  unfold cOf
  unfold okk at h
  constructor
  · intro h2
    repeat' split at h2
    all_goals omega
  · intro h2
    rw [if_neg (by omega), if_neg (by omega), if_neg (by omega), if_neg (by omega)]
def whl (tx : Nat → Int32) (P : Nat) : Prop := cnS tx 42 P = 0 ∧ cnS tx 63 P = 0
theorem s5_isWhole (tx : Nat → Int32) {P : Nat} (hP : P ≤ 40) : (whl tx P ∧ f_X3_isWhole (nI P) tx = some 1) ∨ (¬ whl tx P ∧ f_X3_isWhole (nI P) tx = some 0) := by
  have l1 := fb_ct_le (fun j => decide (tx j = 42)) P
  have l2 := fb_ct_le (fun j => decide (tx j = 63)) P
  rw [f_X3_isWhole, s_howMany _ _ hP, bd_s]
  unfold whl
  unfold cnS at *
  by_cases h : fb_ct (fun j => decide (tx j = 42)) P = 0
  · rw [h, if_pos (show nI 0 = 0 from rfl), s_howMany _ _ hP, bd_s]
    unfold cnS
    by_cases h2 : fb_ct (fun j => decide (tx j = 63)) P = 0
    · left; rw [h2, if_pos (show nI 0 = 0 from rfl)]; exact ⟨⟨rfl, rfl⟩, rfl⟩
    · right; rw [if_neg (by rw [q_0]; exact ine h2 (by omega) (by omega))]; exact ⟨fun q => h2 q.2, rfl⟩
  · right; rw [if_neg (by rw [q_0]; exact ine h (by omega) (by omega))]; exact ⟨fun q => h q.1, rfl⟩
theorem s6_isWhole (tx : Nat → Int32) {P : Nat} (hP : P ≤ 40) : f_X6_isWhole (nI P) tx = f_X3_isWhole (nI P) tx := by
  rw [f_X3_isWhole, f_X6_isWhole, s_howMany _ _ hP, s_many _ _ hP, s_howMany _ _ hP, s_many _ _ hP]
theorem PG.okc {P B C : Nat} {tx : Nat → Int32} {tk : Nat → Nat} (h : PG P B C tx tk) (hw : whl tx P) {C' : Nat} (h1 : 1 ≤ C') (h10 : C' ≤ 10) : okc (ctf tk C') P := by
  obtain ⟨hs, _, _, _, _, _, _, _, hk, _, _⟩ := h
  intro i hi
  refine ⟨?_, cOf_le h10⟩
  rcases Nat.eq_zero_or_pos (ctf tk C' i) with e | e
  · exfalso
    rcases (cOf_pos (hk i hi) h1).mp e with e2 | e2
    · have := hw.1
      rw [q_42, cnS_tk hs (by decide)] at this
      have := fb_ct_zero.mp this i hi
      rw [decide_eq_true e2] at this; cases this
    · have := hw.2
      rw [q_63, cnS_tk hs (by decide)] at this
      have := fb_ct_zero.mp this i hi
      rw [decide_eq_true e2] at this; cases this
  · exact e
theorem okc_zl {c : Nat → Nat} {P : Nat} (hc : okc c P) : zl c P = [] := by
  unfold zl
  rw [List.filter_eq_nil_iff]
  intro j hj
  have := (hc j (List.mem_range.mp hj)).1
  simp; omega
theorem in_dec {P : Nat} (x : Int32) : (∃ j, j < P ∧ x = nI j) ∨ ¬ ∃ j, j < P ∧ x = nI j := Classical.em _
section Q
variable {P B C : Nat} {tx : Nat → Int32} {tk : Nat → Nat}
theorem t_out (h : PG P B C tx tk) (x : Int32) (rp rb : Int32) (r1 r2 r3 r4 r5 : Nat → Int32) (op : Int32) (m1 m2 : Nat → Int32) :
    ∃ a v w, f_X5_out x (nI P) (nI B) (nI C) tx rp rb r1 r2 r3 r4 r5 = some (a, v) ∧ f_X6_out x (nI P) (nI C) op tx m1 m2 = some (a, w) := by
  obtain ⟨hs, hP1, hP, hB1, hB, hBP, hC1, hC, hk, h4, h5⟩ := id h
  rw [f_X5_out, f_X6_out, s_has (by omega), s_isPlace hP1 (by omega), bd_s, bd_s, ite10, ite10, s6_isWhole _ hP]
  by_cases hx : ∃ j, j < P ∧ x = nI j
  · rw [if_pos hx, if_pos hx]
    obtain ⟨j, hj, rfl⟩ := hx
    rcases s5_isWhole tx hP with ⟨hw, e⟩ | ⟨hw, e⟩
    · have hc := h.okc hw hC1 hC
      obtain ⟨ct, ee, cm, ld, ch, h1, h2, h3, _⟩ := s_follow hs.p hP hP1 hBP hB hc r1 r2 r3 r4 r5
      rw [e, bd_s, bd_s, if_neg (by decide), if_neg (by decide), h1, bd_s, s_lay hs.p hP hC (by rw [okc_zl hc]; exact Nat.zero_le _), bd_s]
      dsimp only
      rw [inB_t (by omega) (by omega), ck_t, ix_nI (by omega), h3 j hj, s_outOf' hc hP (AR_fill _ _ _) hj, bd_s]
      exact ⟨_, _, _, rfl, rfl⟩
    · rw [e, bd_s, bd_s, if_pos rfl, if_pos rfl]
      exact ⟨_, _, _, rfl, rfl⟩
  · rw [if_neg hx, if_neg hx]
    exact ⟨_, _, _, rfl, rfl⟩
theorem s_outsOfAll_17 {c : Nat → Nat} {ct : Nat → Int32} (hc : okc c P) (hP : P ≤ 40) (hr : AR ct c P) (K : Int32 → Int32 → Option Int32) (v : Int32) {p : Nat} (hp : p < P) : ∀ (n q : Nat), q ≤ p → p - q < n →
    f_X6_outsOfAll_17 (nI P) ct K n v (nI p) (b01 (!(List.range q).any (fun b => decide (ou c P b = ou c P p)))) (nI q) = K (v + b01 (!(List.range p).any (fun b => decide (ou c P b = ou c P p)))) (nI (p + 1)) := by
  intro n
  induction n with
  | zero => intro q h1 h2; omega
  | succ n ih =>
    intro q h1 h2
    rw [f_X6_outsOfAll_17]
    by_cases e : q = p
    · subst e
      rw [if_pos (ile (Nat.le_refl _) (by omega)), nI_p1]
      cases (List.range q).any (fun b => decide (ou c P b = ou c P q)) with
      | true => rfl
      | false => rfl
    · rw [if_neg (inle (by omega) (by omega))]
      have ih' := ih (q + 1) (by omega) (by omega)
      rw [List.range_succ, List.any_append] at ih'
      simp only [List.any_cons, List.any_nil, Bool.or_false] at ih'
      simp only [nI_p1]
      cases ha : (List.range q).any (fun b => decide (ou c P b = ou c P p)) with
      | true =>
        rw [ha] at ih'
        exact ih'
      | false =>
        rw [ha] at ih'
        rw [if_neg (show ¬ b01 (!false) = 0 by decide), s_outOf' hc hP hr (show q < P by omega), bd_s, s_outOf' hc hP hr hp, bd_s]
        have g1 := (ou_in hc q (by omega)).2
        have g2 := (ou_in hc p hp).2
        by_cases e2 : ou c P q = ou c P p
        · rw [if_pos (by rw [e2])]
          rw [decide_eq_true e2] at ih'
          exact ih'
        · rw [if_neg (ine e2 (by omega) (by omega))]
          rw [decide_eq_false e2] at ih'
          exact ih'
def fst_ (c : Nat → Nat) (P : Nat) (p : Nat) : Bool := !(List.range p).any (fun b => decide (ou c P b = ou c P p))
theorem s_outsOfAll_4 {c : Nat → Nat} {ct : Nat → Int32} (hc : okc c P) (hP : P ≤ 40) (hr : AR ct c P) (hB : B ≤ P) : ∀ (n i : Nat), i ≤ B → B - i < n →
    f_X6_outsOfAll_4 (nI P) (nI B) ct n (nI (fb_ct (fst_ c P) i)) (nI i) = some (nI (fb_ct (fst_ c P) B)) := by
  intro n
  induction n with
  | zero => intro i h1 h2; omega
  | succ n ih =>
    intro i h1 h2
    rw [f_X6_outsOfAll_4]
    by_cases e : i = B
    · subst e; rw [if_pos (ile (Nat.le_refl _) (by omega))]
    · rw [if_neg (inle (by omega) (by omega))]
      have := s_outsOfAll_17 hc hP hr (f_X6_outsOfAll_4 (nI P) (nI B) ct n) (nI (fb_ct (fst_ c P) i)) (show i < P by omega) FU 0 (Nat.zero_le _) (FU_ge (by omega))
      refine Eq.trans this ?_
      have e3 : nI (fb_ct (fst_ c P) i) + b01 (!(List.range i).any (fun b => decide (ou c P b = ou c P i))) = nI (fb_ct (fst_ c P) (i + 1)) := by
        rw [fb_ct_succ]
        show nI (fb_ct (fst_ c P) i) + b01 (fst_ c P i) = _
        cases fst_ c P i with
        | true => exact nI_add _ 1
        | false => exact nI_add _ 0
      rw [e3]
      exact ih (i + 1) (by omega) (by omega)
theorem s_outsOfAll {c : Nat → Nat} {ct : Nat → Int32} (hc : okc c P) (hP : P ≤ 40) (hr : AR ct c P) (hB : B ≤ P) : f_X6_outsOfAll (nI P) (nI B) ct = some (nI (strs c P B)) := by
  have := s_outsOfAll_4 hc hP hr hB FU 0 (Nat.zero_le _) (FU_ge (by omega))
  rw [f_X6_outsOfAll]
  refine Eq.trans this ?_
  unfold strs
  rw [ct_any_new (fun b => ou c P b) 64 B (fun b hb => by have := (ou_in hc b (by omega)).2; omega)]
  rfl
theorem t_streams (h : PG P B C tx tk) (rp rb : Int32) (r1 r2 r3 r4 r5 : Nat → Int32) (op : Int32) (m1 m2 : Nat → Int32) :
    ∃ a v w, f_X5_streams (nI P) (nI B) (nI C) tx rp rb r1 r2 r3 r4 r5 = some (a, v) ∧ f_X6_streams (nI P) (nI B) (nI C) op tx m1 m2 = some (a, w) := by
  obtain ⟨hs, hP1, hP, hB1, hB, hBP, hC1, hC, hk, h4, h5⟩ := id h
  rw [f_X5_streams, f_X6_streams, s6_isWhole _ hP]
  rcases s5_isWhole tx hP with ⟨hw, e⟩ | ⟨hw, e⟩
  · have hc := h.okc hw hC1 hC
    obtain ⟨ct, ee, cm, ld, ch, h1, h2, h3, _⟩ := s_follow hs.p hP hP1 hBP hB hc r1 r2 r3 r4 r5
    rw [e, bd_s, bd_s, if_neg (by decide), if_neg (by decide), h1, bd_s, s_lay hs.p hP hC (by rw [okc_zl hc]; exact Nat.zero_le _), bd_s]
    dsimp only
    rw [s_manyEnds (e := ou (ctf tk C) P) (by omega) (fun i hi => ⟨h3 i (by omega), by have := (ou_in hc i (by omega)).2; omega⟩), bd_s, s_outsOfAll hc hP (AR_fill _ _ _) hBP, bd_s]
    exact ⟨_, _, _, rfl, rfl⟩
  · rw [e, bd_s, bd_s, if_pos rfl, if_pos rfl]
    exact ⟨_, _, _, rfl, rfl⟩
theorem t_meet (h : PG P B C tx tk) (x y : Int32) (rp rb : Int32) (r1 : Nat → Int32) (op : Int32) (m1 m2 : Nat → Int32) :
    ∃ a v w, f_X5_meet x y (nI P) (nI B) (nI C) tx rp rb r1 = some (a, v) ∧ f_X6_meet x y (nI P) (nI C) op tx m1 m2 = some (a, w) := by
  obtain ⟨hs, hP1, hP, hB1, hB, hBP, hC1, hC, hk, h4, h5⟩ := id h
  rw [f_X5_meet, f_X6_meet, s_has (by omega), s_isPlace hP1 (by omega), s_has (by omega), s_isPlace hP1 (by omega), s6_isWhole _ hP]
  simp only [bd_s, ite10]
  by_cases hx : ∃ j, j < P ∧ x = nI j
  · rw [if_pos hx, if_pos hx]
    by_cases hy : ∃ j, j < P ∧ y = nI j
    · rw [if_pos hy, if_pos hy]
      obtain ⟨a, ha, rfl⟩ := hx
      obtain ⟨b, hb, rfl⟩ := hy
      rcases s5_isWhole tx hP with ⟨hw, e⟩ | ⟨hw, e⟩
      · have hc := h.okc hw hC1 hC
        rw [e, bd_s, bd_s, if_neg (by decide), if_neg (by decide), s_read hs.p hP, bd_s, s_lay hs.p hP hC (by rw [okc_zl hc]; exact Nat.zero_le _), bd_s]
        dsimp only
        have hr := AR_fill (ctf tk C) r1 P
        have hr2 := AR_fill (ctf tk C) m1 P
        obtain ⟨ma, f1, f2, f3⟩ := s_streamOf hc hP hr ha
        obtain ⟨mb, g1, g2, g3⟩ := s_streamOf hc hP hr hb
        rw [f1, bd_s, g1, bd_s, fb_andL, f_X6_meetOf]
        have hlt : ma &&& mb < 2 ^ 64 := Nat.lt_of_le_of_lt Nat.and_le_left f2
        have hbit : ∀ q, (ma &&& mb).testBit q = (rs (ctf tk C) P a q && rs (ctf tk C) P b q) := fun q => by rw [Nat.testBit_and, f3, g3]
        rcases s_meetOf hc hP hr2 FU a b ha hb (Nat.le_of_lt (FU_ge (by omega))) with ⟨k1, k2⟩ | ⟨z, k1, k2, k3, k4, k5⟩
        · have h0 : ma &&& mb = 0 := by
            apply Nat.eq_of_testBit_eq
            intro q
            rw [hbit, Nat.zero_testBit]
            cases e1 : rs (ctf tk C) P a q with
            | false => rfl
            | true => cases e2 : rs (ctf tk C) P b q with
              | false => rfl
              | true => exact absurd ((rs_ou hc a ha q e1).symm.trans (rs_ou hc b hb q e2)) k2
          rw [if_pos (lg_eq.mpr (by rw [h0]; rfl)), k1, bd_s]
          exact ⟨_, _, _, rfl, rfl⟩
        · have hz : (ma &&& mb).testBit z = true := by rw [hbit, k3, k4]; rfl
          rw [if_neg, s_leastBit hlt hz (fun i hi => ?_), k1, bd_s, bd_s]
          · exact ⟨_, _, _, rfl, rfl⟩
          · rw [hbit]
            cases e1 : rs (ctf tk C) P a i with
            | false => rfl
            | true => cases e2 : rs (ctf tk C) P b i with
              | false => rfl
              | true => have := k5 i e1 e2; omega
          · intro h0
            have h1 := lg_eq.mp h0
            rw [show (0 : Int64) = lN 0 from rfl] at h1
            have h2 : ma &&& mb = 0 := by
              have := congrArg (fun t => t.toBitVec.toNat) h1
              simp only [wb_tn hlt, wb_tn (show (0 : Nat) < 2 ^ 64 by decide)] at this
              exact this
            rw [h2, Nat.zero_testBit] at hz; cases hz
      · rw [e, bd_s, bd_s, if_pos rfl, if_pos rfl]
        exact ⟨_, _, _, rfl, rfl⟩
    · rw [if_neg hy, if_neg hy]
      exact ⟨_, _, _, rfl, rfl⟩
  · rw [if_neg hx, if_neg hx]
    exact ⟨_, _, _, rfl, rfl⟩
/-! ===== pass ===== -/
theorem s_isPassed_4 {c : Nat → Nat} {ct : Nat → Int32} (hc : okc c P) (hP : P ≤ 40) (hr : AR ct c P) (hB : B ≤ P) {q : Nat} (hq : q < P) : ∀ (n i : Nat), i ≤ B → B - i < n →
    f_X6_isPassed_4 (nI q) (nI P) (nI B) ct n (b01 (psd c P i q)) (nI i) = some (b01 (psd c P B q)) := by
  intro n
  induction n with
  | zero => intro i h1 h2; omega
  | succ n ih =>
    intro i h1 h2
    rw [f_X6_isPassed_4]
    by_cases e : i = B
    · subst e
      rw [if_pos (ile (Nat.le_refl _) (by omega))]
      cases psd c P i q with
      | true => rfl
      | false => rfl
    · rw [if_neg (inle (by omega) (by omega))]
      simp only [nI_p1]
      have ih' := ih (i + 1) (by omega) (by omega)
      have e2 : psd c P (i + 1) q = (psd c P i q && rs c P i q) := by
        unfold psd
        rw [List.range_succ, List.all_append]
        simp
      rw [e2] at ih'
      cases ha : psd c P i q with
      | false => rw [ha] at ih'; exact ih'
      | true =>
        rw [ha] at ih'
        rw [if_neg (show ¬ b01 true = 0 by decide), s_comesTo' hc hP hr (show i < P by omega) hq, bd_s]
        cases hb : rs c P i q with
        | true => rw [hb] at ih'; exact ih'
        | false => rw [hb] at ih'; exact ih'
theorem s_isPassed {c : Nat → Nat} {ct : Nat → Int32} (hc : okc c P) (hP : P ≤ 40) (hr : AR ct c P) (hB : B ≤ P) {q : Nat} (hq : q < P) : f_X6_isPassed (nI q) (nI P) (nI B) ct = some (b01 (psd c P B q)) :=
  s_isPassed_4 hc hP hr hB hq FU 0 (Nat.zero_le _) (FU_ge (by omega))
def ctP (pd : Nat → Bool) (p : Nat) : Nat := fb_ct pd p
theorem s_pass_22 {c : Nat → Nat} {ct : Nat → Int32} (hc : okc c P) (hP : P ≤ 40) (hr : AR ct c P) (hB : B ≤ P) (x op : Int32) (on : Nat → Int32) : ∀ (n i : Nat), i ≤ P → P - i < n →
    f_X6_pass_22 x (nI P) (nI B) n (nI (ctP (psd c P B) i)) (nI i) op ct on = some (if x = -1 then nI (ctP (psd c P B) P) else noneI (glk (psd c P B) x (P - i) i (ctP (psd c P B) i)), op, ct, on) := by
  intro n
  induction n with
  | zero => intro i h1 h2; omega
  | succ n ih =>
    intro i h1 h2
    have hle := fb_ct_le (psd c P B) i
    rw [f_X6_pass_22]
    by_cases e : i = P
    · subst e
      rw [if_pos (ile (Nat.le_refl _) (by omega)), Nat.sub_self, glk]
      by_cases h : x = -1
      · rw [if_pos h, if_pos h]
      · rw [if_neg h, if_neg h]; rfl
    · obtain ⟨r, hr2⟩ : ∃ r, P - i = r + 1 := ⟨P - i - 1, by omega⟩
      rw [if_neg (inle (by omega) (by omega)), s_isPassed hc hP hr hB (show i < P by omega), bd_s, hr2, glk]
      have ih' := ih (i + 1) (by omega) (by omega)
      rw [show P - (i + 1) = r by omega] at ih'
      have e3 : ctP (psd c P B) (i + 1) = ctP (psd c P B) i + (if psd c P B i = true then 1 else 0) := fb_ct_succ _ _
      simp only [nI_p1]
      cases ha : psd c P B i with
      | false =>
        rw [ha] at e3
        rw [show ctP (psd c P B) (i + 1) = ctP (psd c P B) i by simpa using e3] at ih'
        exact ih'
      | true =>
        rw [ha] at e3
        rw [show ctP (psd c P B) (i + 1) = ctP (psd c P B) i + 1 by simpa using e3] at ih'
        rw [if_neg (show ¬ b01 true = 0 by decide), if_pos rfl]
        by_cases h : nI (ctP (psd c P B) i) = x
        · rw [if_pos h, if_pos h, if_neg]
          · rfl
          · intro h3
            rw [h3] at h
            have := congrArg Int32.toInt h
            have hle' : ctP (psd c P B) i ≤ i := hle
            rw [nI_toInt (by omega), show (-1 : Int32).toInt = -1 from rfl] at this
            omega
        · rw [if_neg h, if_neg h]
          exact ih'
theorem t_pass (h : PG P B C tx tk) (x : Int32) (rp rb : Int32) (r1 : Nat → Int32) (op : Int32) (m1 m2 : Nat → Int32) :
    ∃ a v w, f_X5_pass x (nI P) (nI B) (nI C) tx rp rb r1 = some (a, v) ∧ f_X6_pass x (nI P) (nI B) (nI C) op tx m1 m2 = some (a, w) := by
  obtain ⟨hs, hP1, hP, hB1, hB, hBP, hC1, hC, hk, h4, h5⟩ := id h
  rw [f_X5_pass, f_X6_pass, s6_isWhole _ hP]
  rcases s5_isWhole tx hP with ⟨hw, e⟩ | ⟨hw, e⟩
  · have hc := h.okc hw hC1 hC
    rw [e, bd_s, bd_s, if_neg (by decide), if_neg (by decide), s_read hs.p hP, bd_s, s_lay hs.p hP hC (by rw [okc_zl hc]; exact Nat.zero_le _), bd_s]
    dsimp only
    obtain ⟨mm, f1, f2, f3⟩ := s_passed hc hP (AR_fill (ctf tk C) r1 P) hBP hB1
    have hcut : ∀ q, P ≤ q → psd (ctf tk C) P B q = false := fun q hq => by
      cases e2 : psd (ctf tk C) P B q with
      | false => rfl
      | true => have := (rs_ge hc 0 (by omega) q (psd_iff.mp e2 0 (by omega))).2; omega
    rw [f1, bd_s, show (0 : Int32) = nI (ctP (psd (ctf tk C) P B) 0) from rfl, show (nI (ctP (psd (ctf tk C) P B) 0)) = nI 0 from rfl]
    have := s_pass_22 hc hP (AR_fill (ctf tk C) m1 P) hBP x (nI (zl (ctf tk C) P).length) (opf (ctf tk C) m2 P) FU 0 (Nat.zero_le _) (FU_ge (by omega))
    rw [show ctP (psd (ctf tk C) P B) 0 = 0 from rfl, Nat.sub_zero] at this
    rw [this]
    by_cases hx : x = -1
    · rw [if_pos hx, s_bitCount f2, bd_s, if_pos hx]
      have : pct mm 64 = ctP (psd (ctf tk C) P B) P := by
        unfold pct ctP
        rw [fb_ct_cong (fun i _ => f3 i), show 64 = P + (64 - P) by omega, fb_ct_split]
        have : fb_ct (fun k => psd (ctf tk C) P B (P + k)) (64 - P) = 0 := fb_ct_zero.mpr (fun k _ => hcut _ (by omega))
        omega
      rw [this]
      exact ⟨_, _, _, rfl, rfl⟩
    · rw [if_neg hx, if_neg hx, s_bitAt f2, bd_s, glk_cong x 40 0 0 (fun q _ => f3 q), glk_cut x hcut 40 0 0 (by omega), Nat.sub_zero]
      exact ⟨_, _, _, rfl, rfl⟩
  · rw [e, bd_s, bd_s, if_pos rfl, if_pos rfl]
    exact ⟨_, _, _, rfl, rfl⟩
end Q
