/-! ===== an open place that none comes to ===== -/
section DEAD
variable {P B p : Nat}
theorem cur_dead {c c' : Nat → Nat} {b : Nat} (he : ∀ q, q ≠ p → c q = c' q) (hd : cur c p b ≠ p) : ∀ n, cur c n b = cur c' n b := by
  intro n
  induction n with
  | zero => rfl
  | succ n ih =>
    rw [cur, cur, ← ih]
    by_cases e : cur c n b = n
    · have hn : n ≠ p := fun z => by subst z; exact hd e
      rw [if_pos e, if_pos e, he n hn]
    · rw [if_neg e, if_neg e]
theorem rs_dead {c c' : Nat → Nat} (hc : okc c P) (hc' : okc c' P) {b q : Nat} (hb : b < P) (he : ∀ q, q ≠ p → c q = c' q) (hd : cur c p b ≠ p) : rs c P b q = rs c' P b q := by
  by_cases hq : q < P
  · rw [rs_cur hc hq b hb, rs_cur hc' hq b hb, cur_dead he hd]
  · have h1 : rs c P b q = false := by
      cases h : rs c P b q with
      | false => rfl
      | true => exact absurd (rs_ge hc b hb q h).2 hq
    have h2 : rs c' P b q = false := by
      cases h : rs c' P b q with
      | false => rfl
      | true => exact absurd (rs_ge hc' b hb q h).2 hq
    rw [h1, h2]
theorem ou_dead {c c' : Nat → Nat} (hp : p < P) (hc : okc c P) (hc' : okc c' P) {b : Nat} (hb : b < P) (he : ∀ q, q ≠ p → c q = c' q) (hd : cur c p b ≠ p) : ou c P b = ou c' P b := by
  have hr := rs_out hc b hb
  have ho := (ou_in hc b hb).2
  have hne : ou c P b ≠ p := fun z => by
    rw [z, rs_cur hc hp b hb] at hr
    exact hd (of_decide_eq_true hr)
  have h1 : ou c P (ou c P b) = ou c P b := rs_ou hc b hb _ hr
  have h2 := (ou_self hc ho).mp h1
  rw [he _ hne] at h2
  have h3 := (ou_self hc' ho).mpr h2
  rw [rs_dead hc hc' hb he hd] at hr
  have h4 := rs_ou hc' b hb _ hr
  rw [← h4, h3]
theorem hld_dead {c c' : Nat → Nat} (hp : p < P) (hB : B ≤ P) (hc : okc c P) (hc' : okc c' P) (he : ∀ q, q ≠ p → c q = c' q) (hd : ∀ b, b < B → cur c p b ≠ p) (wk z : Nat) (sf : Bool) : hld wk z P B c = hld wk z P B c' ∧ rkf sf P B c = rkf sf P B c' := by
  have hps : psd c P B = psd c' P B := by
    funext q
    rw [Bool.eq_iff_iff, psd_iff, psd_iff]
    exact ⟨fun h b hb => by rw [← rs_dead hc hc' (by omega) he (hd b hb)]; exact h b hb, fun h b hb => by rw [rs_dead hc hc' (by omega) he (hd b hb)]; exact h b hb⟩
  have hst : strs c P B = strs c' P B := by
    unfold strs
    apply fb_ct_cong
    intro q _
    rw [Bool.eq_iff_iff, List.any_eq_true, List.any_eq_true]
    constructor
    · rintro ⟨b, hb, h⟩
      have hb' := List.mem_range.mp hb
      exact ⟨b, hb, by rw [← ou_dead hp hc hc' (by omega) he (hd b hb')]; exact h⟩
    · rintro ⟨b, hb, h⟩
      have hb' := List.mem_range.mp hb
      exact ⟨b, hb, by rw [ou_dead hp hc hc' (by omega) he (hd b hb')]; exact h⟩
  unfold hld rkf rkS
  rw [hps, hst]
  refine ⟨rfl, ?_⟩
  cases sf with
  | false => rfl
  | true => rw [if_pos rfl]; show fpp _ P 0 = fpp _ P 0; rw [hps]
def mpB (f : (Nat → Nat) → (Nat → Nat)) (S : SS) : SS := (S.1, S.2.map (fun x => (x.1, f x.2)))
theorem mpB_cmb (f : (Nat → Nat) → (Nat → Nat)) (a b : SS) : mpB f (cmb a b) = cmb (mpB f a) (mpB f b) := by
  unfold mpB cmb pick
  dsimp only
  rcases a with ⟨n, _ | x⟩ <;> rcases b with ⟨k, _ | y⟩
  · rfl
  · rfl
  · rfl
  · dsimp only [Option.map]
    by_cases e : x.1 ≤ y.1
    · rw [if_pos e, if_pos e]
    · rw [if_neg e, if_neg e]
theorem mpB_ncb (f : (Nat → Nat) → (Nat → Nat)) (g : Nat → SS) : ∀ n, mpB f (ncb g n) = ncb (fun i => mpB f (g i)) n
  | 0 => rfl
  | n + 1 => by rw [ncb, ncb, mpB_cmb, mpB_ncb f g n]
theorem chg_chg (x : Nat → Nat) (p d d' : Nat) : chg (chg x p d) p d' = chg x p d' := by
  funext q
  unfold chg
  by_cases e : q = p
  · rw [if_pos e, if_pos e]
  · rw [if_neg e, if_neg e, if_neg e]
theorem chg_comm (x : Nat → Nat) {p o : Nat} (h : p ≠ o) (d e : Nat) : chg (chg x p d) o e = chg (chg x o e) p d := by
  funext q
  unfold chg
  by_cases e1 : q = o
  · rw [if_pos e1, if_neg (by omega), if_pos e1]
  · rw [if_neg e1]
    by_cases e2 : q = p
    · rw [if_pos e2, if_pos e2]
    · rw [if_neg e2, if_neg e2, if_neg e1]
/-- the place's own count changes nothing but itself -/
theorem SM_dead {al : Nat → Bool} {wk z : Nat} {sf : Bool} (hp : p < P) (hB : B ≤ P) {d d' : Nat} (hd1 : 1 ≤ d ∧ d ≤ 10) (hd2 : 1 ≤ d' ∧ d' ≤ 10) : ∀ (os : List Nat) (x : Nat → Nat), (∀ o ∈ os, p < o) → (∀ q, q < P → q ≠ p → q ∉ os → 1 ≤ x q ∧ x q ≤ 10) → (∀ b, b < B → cur x p b ≠ p) →
    SM al (hld wk z P B) (rkf sf P B) os (chg x p d') = mpB (fun c0 => chg c0 p d') (SM al (hld wk z P B) (rkf sf P B) os (chg x p d)) := by
  intro os
  induction os with
  | nil =>
    intro x _ hx hdead
    have ok : ∀ e, 1 ≤ e ∧ e ≤ 10 → okc (chg x p e) P := fun e he q hq => by
      unfold chg
      by_cases z : q = p
      · rw [if_pos z]; exact he
      · rw [if_neg z]; exact hx q hq z (by simp)
    have hagree : ∀ q, q ≠ p → chg x p d' q = chg x p d q := fun q hq => by unfold chg; rw [if_neg hq, if_neg hq]
    have hdd : ∀ b, b < B → cur (chg x p d') p b ≠ p := fun b hb => by
      rw [cur_cong (c' := x) p (fun q hq => by unfold chg; rw [if_neg (by omega)])]
      exact hdead b hb
    obtain ⟨h1, h2⟩ := hld_dead hp hB (ok d' hd2) (ok d hd1) hagree hdd wk z sf
    rw [SM, SM]
    unfold lf
    rw [h1, h2]
    by_cases e : hld wk z P B (chg x p d) = true
    · rw [if_pos e, if_pos e]
      unfold mpB
      dsimp only [Option.map]
      rw [chg_chg]
    · rw [if_neg e, if_neg e]; rfl
  | cons o os ih =>
    intro x ho hx hdead
    rw [SM, SM, mpB_ncb]
    apply ncb_cong
    intro i hi
    have hpo : p ≠ o := fun e => by have := ho o List.mem_cons_self; omega
    by_cases e : al (i + 1) = true
    · rw [if_pos e, if_pos e, chg_comm x hpo, chg_comm x hpo]
      refine ih (chg x o (i + 1)) (fun o' h => ho o' (List.mem_cons_of_mem _ h)) (fun q hq h1 h2 => ?_) (fun b hb => ?_)
      · unfold chg
        by_cases z : q = o
        · rw [if_pos z]; omega
        · rw [if_neg z]
          exact hx q hq h1 (fun h => by
            rcases List.mem_cons.mp h with h | h
            · exact z h
            · exact h2 h)
      · rw [cur_cong (c' := x) p (fun q hq => by
          unfold chg
          rw [if_neg (fun z => by have := ho o List.mem_cons_self; omega)])]
        exact hdead b hb
    · rw [if_neg e, if_neg e]; rfl
/-- all its allowed counts: as many times the least -/
theorem ncb_dead {al : Nat → Bool} {S : SS} {p l : Nat} (hl : al l = true) (hlm : ∀ d, d < l → al d = false) (hl1 : 1 ≤ l) : ∀ n, ncb (fun d => if al (d + 1) = true then mpB (fun c0 => chg c0 p (d + 1)) S else sz) n = if l ≤ n then scl (fb_ct (fun d => al (d + 1)) n) (mpB (fun c0 => chg c0 p l) S) else sz := by
  intro n
  induction n with
  | zero => rw [ncb, if_neg (by omega)]
  | succ n ih =>
    rw [ncb, ih, fb_ct_succ]
    by_cases e1 : l ≤ n
    · rw [if_pos e1, if_pos (show l ≤ n + 1 by omega)]
      by_cases e2 : al (n + 1) = true
      · rw [if_pos e2, if_pos e2]
        unfold scl mpB cmb pick
        rcases S with ⟨N, _ | x⟩
        · dsimp only [Option.map]
          rw [Nat.add_mul, Nat.one_mul]
        · dsimp only [Option.map]
          rw [Nat.add_mul, Nat.one_mul, if_pos (Nat.le_refl _)]
      · rw [if_neg e2, if_neg e2, cmb_sz, Nat.add_zero]
    · rw [if_neg e1, sz_cmb]
      by_cases e2 : l = n + 1
      · subst e2
        have h0 : fb_ct (fun d => al (d + 1)) n = 0 := fb_ct_zero.mpr (fun k hk => hlm (k + 1) (by omega))
        rw [if_pos hl, if_pos (Nat.le_refl _), if_pos hl, h0]
        unfold scl mpB
        dsimp only
        rw [Nat.zero_add, Nat.one_mul]
      · rw [if_neg (show ¬ l ≤ n + 1 by omega), if_neg (show ¬ al (n + 1) = true by rw [hlm (n + 1) (by omega)]; decide)]
end DEAD
