/-! ===== the reference's sweep: write and soonest ===== -/
theorem isB_b (b : Bool) : isB (b01 b) = true := by cases b <;> rfl
section MD
variable {P B a k : Nat} {c w : Nat → Nat} {zs : List Nat} {wt on : Nat → Int32}
theorem s_isAllowed_4 {ct : Nat → Int32} {c' : Nat → Nat} (hP : P ≤ 40) (hr : AR ct c' P) (hc : okc c' P) (ha : a < 2048) (hk : zs.length = k) (hk5 : k ≤ 5) (hz : ∀ o ∈ zs, o < P) (hon : ∀ (i o : Nat), zs[i]? = some o → on i = nI o) : ∀ (n j : Nat), j ≤ k → k - j < n →
    f_X6_isAllowed_4 (nI a) (nI k) ct on n (b01 ((zs.take j).all (fun o => a.testBit (c' o)))) (nI j) = some (b01 (zs.all (fun o => a.testBit (c' o)))) := by
  intro n
  induction n with
  | zero => intro j h1 h2; omega
  | succ n ih =>
    intro j h1 h2
    rw [f_X6_isAllowed_4]
    by_cases e : j = k
    · subst e
      rw [if_pos (ile (Nat.le_refl _) (by omega)), isB_b, ck_t, List.take_of_length_le (by omega)]
    · have hj : j < zs.length := by omega
      have e1 : zs[j]? = some zs[j] := List.getElem?_eq_getElem hj
      have hzj := hz zs[j] (List.getElem_mem hj)
      have hcj := hc zs[j] hzj
      have hall : (zs.take (j + 1)).all (fun o => a.testBit (c' o)) = ((zs.take j).all (fun o => a.testBit (c' o)) && a.testBit (c' zs[j])) := by
        rw [take_succ e1, List.all_append, List.all_cons, List.all_nil, Bool.and_true]
      have ih' := ih (j + 1) (by omega) (by omega)
      rw [hall] at ih'
      rw [if_neg (inle (by omega) (by omega)), nI_p1]
      cases hb : (zs.take j).all (fun o => a.testBit (c' o)) with
      | false =>
        rw [hb, Bool.false_and] at ih'
        rw [if_pos (show b01 false = 0 from rfl)]
        exact ih'
      | true =>
        rw [hb, Bool.true_and] at ih'
        rw [if_neg (show ¬ b01 true = 0 by decide), inB_t (by omega) (by omega), ck_t, ix_nI (by omega), hon j _ e1, inB_t (by omega) (by omega), ck_t, ix_nI (show zs[j] < 2 ^ 31 by omega), hr _ hzj, al_bit ha (by omega)]
        cases hb2 : a.testBit (c' zs[j]) with
        | false =>
          rw [hb2] at ih'
          rw [if_neg (show ¬ false = true by decide), if_neg (show ¬ nI 0 = 1 by decide)]
          exact ih'
        | true =>
          rw [hb2] at ih'
          rw [if_pos rfl, if_pos (show nI 1 = 1 from rfl)]
          exact ih'
theorem s_isAllowed {ct : Nat → Int32} {c' : Nat → Nat} (hP : P ≤ 40) (hr : AR ct c' P) (hc : okc c' P) (ha : a < 2048) (hk : zs.length = k) (hk5 : k ≤ 5) (hz : ∀ o ∈ zs, o < P) (hon : ∀ (i o : Nat), zs[i]? = some o → on i = nI o) :
    f_X6_isAllowed (nI a) (nI k) ct on = some (b01 (zs.all (fun o => a.testBit (c' o)))) :=
  s_isAllowed_4 hP hr hc ha hk hk5 hz hon FU 0 (Nat.zero_le _) (FU_ge (by omega))
def nap (c : Nat → Nat) (P i j : Nat) : Bool := (List.range j).any (fun b => decide (ou c P b = ou c P i))
theorem nap_succ (c : Nat → Nat) (P i j : Nat) : nap c P i (j + 1) = (nap c P i j || decide (ou c P j = ou c P i)) := by
  unfold nap
  rw [List.range_succ, List.any_append, List.any_cons, List.any_nil, Bool.or_false]
theorem s_isApart_14 {ct : Nat → Int32} (hc : okc c P) (hP : P ≤ 40) (hr : AR ct c P) (K : Int32 → Int32 → Option Int32) (v : Bool) {i : Nat} (hi : i < P) : ∀ (n j : Nat), j ≤ i → i - j < n →
    f_X6_isApart_14 (nI P) ct K n (b01 (v && !nap c P i j)) (nI i) (nI j) = K (b01 (v && !nap c P i i)) (nI (i + 1)) := by
  intro n
  induction n with
  | zero => intro j h1 h2; omega
  | succ n ih =>
    intro j h1 h2
    rw [f_X6_isApart_14]
    by_cases e : j = i
    · subst e; rw [if_pos (ile (Nat.le_refl _) (by omega)), nI_p1]
    · have ih' := ih (j + 1) (by omega) (by omega)
      rw [nap_succ] at ih'
      rw [if_neg (inle (by omega) (by omega)), nI_p1]
      cases hb : (v && !nap c P i j) with
      | false =>
        rw [if_pos (show b01 false = 0 from rfl)]
        have : (v && !(nap c P i j || decide (ou c P j = ou c P i))) = false := by
          revert hb; cases v <;> cases nap c P i j <;> simp
        rw [this] at ih'
        exact ih'
      | true =>
        have hv : v = true ∧ nap c P i j = false := by
          revert hb; cases v <;> cases nap c P i j <;> simp
        rw [hv.1, hv.2, Bool.false_or, Bool.true_and] at ih'
        rw [if_neg (show ¬ b01 true = 0 by decide), f_X6_meetOf]
        rcases s_meetOf hc hP hr FU i j hi (by omega) (Nat.le_of_lt (FU_ge (by omega))) with ⟨k1, k2⟩ | ⟨x, k1, k2, k3, k4, k5⟩
        · rw [k1, bd_s, if_neg (by decide)]
          rw [decide_eq_false (fun z => k2 z.symm)] at ih'
          rw [hv.1]
          exact ih'
        · have heq := (rs_ou hc i hi x k3).symm.trans (rs_ou hc j (by omega) x k4)
          rw [k1, bd_s, if_pos (nI_pos' (by omega))]
          rw [decide_eq_true heq.symm] at ih'
          rw [hv.1]
          exact ih'
theorem s_isApart_4 {ct : Nat → Int32} (hc : okc c P) (hP : P ≤ 40) (hr : AR ct c P) (hB : B ≤ P) : ∀ (n i : Nat), i ≤ B → B - i < n →
    f_X6_isApart_4 (nI P) (nI B) ct n (b01 ((List.range i).all (fun p => !nap c P p p))) (nI i) = some (b01 ((List.range B).all (fun p => !nap c P p p))) := by
  intro n
  induction n with
  | zero => intro i h1 h2; omega
  | succ n ih =>
    intro i h1 h2
    rw [f_X6_isApart_4]
    by_cases e : i = B
    · subst e; rw [if_pos (ile (Nat.le_refl _) (by omega)), isB_b, ck_t]
    · have h3 := s_isApart_14 hc hP hr (f_X6_isApart_4 (nI P) (nI B) ct n) ((List.range i).all (fun p => !nap c P p p)) (show i < P by omega) FU 0 (Nat.zero_le _) (FU_ge (by omega))
      have e0 : nap c P i 0 = false := rfl
      rw [e0, Bool.not_false, Bool.and_true] at h3
      rw [if_neg (inle (by omega) (by omega))]
      refine Eq.trans h3 ?_
      have ih' := ih (i + 1) (by omega) (by omega)
      rw [List.range_succ, List.all_append, List.all_cons, List.all_nil, Bool.and_true] at ih'
      exact ih'
theorem s_isApart {ct : Nat → Int32} (hc : okc c P) (hP : P ≤ 40) (hr : AR ct c P) (hB : B ≤ P) : f_X6_isApart (nI P) (nI B) ct = some (b01 (decide (strs c P B = B))) := by
  have h := s_isApart_4 hc hP hr hB FU 0 (Nat.zero_le _) (FU_ge (by omega))
  rw [f_X6_isApart]
  refine Eq.trans h ?_
  congr 2
  unfold strs
  rw [ct_any_new (fun b => ou c P b) 64 B (fun b hb => by have := (ou_in hc b (by omega)).2; omega), Bool.eq_iff_iff, decide_eq_true_eq, fb_ct_all, List.all_eq_true]
  exact ⟨fun g x hx => g x (List.mem_range.mpr hx), fun g x hx => g x (List.mem_range.mp hx)⟩
/-- what is wished -/
def hld (wk z P B : Nat) (c : Nat → Nat) : Bool := if wk = 0 then decide (strs c P B = 1) else if wk = 1 then decide (strs c P B = B) else if wk = 2 then decide (strs c P B = 2) else psd c P B z
theorem s_holds6 {ct : Nat → Int32} {wk z : Nat} {zi : Int32} (hc : okc c P) (hP : P ≤ 40) (hr : AR ct c P) (hB : B ≤ P) (hwk : wk ≤ 3) (hz : wk = 3 → zi = nI z ∧ z < P) : f_X6_holds (nI wk) zi (nI P) (nI B) ct = some (b01 (hld wk z P B c)) := by
  have hs64 : strs c P B ≤ 64 := fb_ct_le _ _
  rw [f_X6_holds, s_outsOfAll hc hP hr hB, s_isApart hc hP hr hB]
  simp only [bd_s]
  unfold hld
  have h4 : wk = 0 ∨ wk = 1 ∨ wk = 2 ∨ wk = 3 := by omega
  rcases h4 with e | e | e | e <;> subst e
  · rw [if_pos (show nI 0 = 0 from rfl), if_pos rfl]
    by_cases h : strs c P B = 1
    · rw [if_pos (show nI (strs c P B) = 1 by rw [h]; rfl), decide_eq_true h]; rfl
    · rw [if_neg (show ¬ nI (strs c P B) = 1 from ine (b := 1) h (by omega) (by omega)), decide_eq_false h]; rfl
  · rw [if_neg (show ¬ nI 1 = 0 by decide), if_pos (show nI 1 = 1 from rfl), isB_b, ck_t, if_neg (by decide), if_pos rfl]
  · rw [if_neg (show ¬ nI 2 = 0 by decide), if_neg (show ¬ nI 2 = 1 by decide), if_pos (show nI 2 = 2 from rfl), if_neg (show ¬ (2 : Nat) = 0 by decide), if_neg (show ¬ (2 : Nat) = 1 by decide), if_pos (show (2 : Nat) = 2 from rfl)]
    by_cases h : strs c P B = 2
    · rw [if_pos (show nI (strs c P B) = 2 by rw [h]; rfl), decide_eq_true h]; rfl
    · rw [if_neg (show ¬ nI (strs c P B) = 2 from ine (b := 2) h (by omega) (by omega)), decide_eq_false h]; rfl
  · obtain ⟨rfl, hzP⟩ := hz rfl
    rw [if_neg (show ¬ nI 3 = 0 by decide), if_neg (show ¬ nI 3 = 1 by decide), if_neg (show ¬ nI 3 = 2 by decide), s_isPassed hc hP hr hB hzP, bd_s, isB_b, ck_t, if_neg (by decide), if_neg (by decide), if_neg (by decide)]
def fpp (f : Nat → Bool) : Nat → Nat → Nat
  | 0, q => q
  | n + 1, q => if f q = true then q else fpp f n (q + 1)
theorem fpp_spec {f : Nat → Bool} : ∀ (n q x : Nat), q ≤ x → x < q + n → f x = true → f (fpp f n q) = true ∧ q ≤ fpp f n q ∧ fpp f n q ≤ x ∧ ∀ i, q ≤ i → i < fpp f n q → f i = false := by
  intro n
  induction n with
  | zero => intro q x h1 h2; omega
  | succ n ih =>
    intro q x h1 h2 h3
    rw [fpp]
    by_cases e : f q = true
    · rw [if_pos e]; exact ⟨e, Nat.le_refl _, h1, fun i a b => by omega⟩
    · rw [if_neg e]
      have hx : q + 1 ≤ x := by
        rcases Nat.eq_or_lt_of_le h1 with z | z
        · subst z; exact absurd h3 e
        · exact z
      obtain ⟨a1, a2, a3, a4⟩ := ih (q + 1) x hx (by omega) h3
      refine ⟨a1, by omega, a3, fun i b1 b2 => ?_⟩
      rcases Nat.eq_or_lt_of_le b1 with z | z
      · subst z; cases hq : f q with
        | false => rfl
        | true => exact absurd hq e
      · exact a4 i (by omega) b2
def rkS (P B : Nat) (c : Nat → Nat) : Nat := fpp (psd c P B) P 0
theorem one_psd (hc : okc c P) (hP : P ≤ 40) (hB1 : 1 ≤ B) (hB : B ≤ P) (h : strs c P B = 1) : psd c P B (ou c P 0) = true ∧ ou c P 0 < P := by
  refine ⟨psd_iff.mpr (fun b hb => ?_), (ou_in hc 0 (by omega)).2⟩
  rw [(strs_one hc hP hB1 hB).mp h 0 b (by omega) hb]
  exact rs_out hc b (by omega)
theorem s_firstPassed_2 {ct : Nat → Int32} (hc : okc c P) (hP : P ≤ 40) (hr : AR ct c P) (hB : B ≤ P) : ∀ (m n q x : Nat), q ≤ x → x < q + m → x < P → psd c P B x = true → m ≤ n → f_X6_firstPassed_2 (nI P) (nI B) ct n (nI q) = some (nI (fpp (psd c P B) m q)) := by
  intro m
  induction m with
  | zero => intro n q x h1 h2; omega
  | succ m ih =>
    intro n q x h1 h2 h3 h4 h5
    obtain ⟨n', rfl⟩ : ∃ n', n = n' + 1 := ⟨n - 1, by omega⟩
    rw [f_X6_firstPassed_2, s_isPassed hc hP hr hB (by omega), bd_s, fpp]
    cases e : psd c P B q with
    | true => rw [if_neg (show ¬ b01 true = 0 by decide), if_pos rfl]
    | false =>
      rw [if_pos (show b01 false = 0 from rfl), if_neg (by decide), nI_p1]
      have hx : q + 1 ≤ x := by
        rcases Nat.eq_or_lt_of_le h1 with z | z
        · subst z; rw [e] at h4; cases h4
        · exact z
      exact ih n' (q + 1) x hx (by omega) h3 h4 (by omega)
theorem s_firstPassed {ct : Nat → Int32} (hc : okc c P) (hP : P ≤ 40) (hr : AR ct c P) (hB1 : 1 ≤ B) (hB : B ≤ P) (h : strs c P B = 1) : f_X6_firstPassed (nI P) (nI B) ct = some (nI (rkS P B c)) := by
  have h1 := one_psd hc hP hB1 hB h
  exact s_firstPassed_2 hc hP hr hB P FU 0 (ou c P 0) (Nat.zero_le _) (by omega) h1.2 h1.1 (Nat.le_of_lt (FU_ge (by omega)))
end MD
