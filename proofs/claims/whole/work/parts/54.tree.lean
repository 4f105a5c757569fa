/-! ===== write and soonest: summaries of ways ===== -/
abbrev SS := Nat × Option (Nat × (Nat → Nat))
def pick (a b : Option (Nat × (Nat → Nat))) : Option (Nat × (Nat → Nat)) := match a with
  | none => b
  | some x => match b with
    | none => some x
    | some y => if x.1 ≤ y.1 then some x else some y
def cmb (s t : SS) : SS := (s.1 + t.1, pick s.2 t.2)
def sz : SS := (0, none)
theorem pick_none (a : Option (Nat × (Nat → Nat))) : pick a none = a := by cases a <;> rfl
theorem pick_assoc (a b c : Option (Nat × (Nat → Nat))) : pick (pick a b) c = pick a (pick b c) := by
  cases a with
  | none => rfl
  | some x => cases b with
    | none => rfl
    | some y => cases c with
      | none => rw [pick_none, pick_none]
      | some z =>
        unfold pick
        by_cases h1 : x.1 ≤ y.1
        · by_cases h2 : y.1 ≤ z.1
          · simp only [if_pos h1, if_pos h2, if_pos (Nat.le_trans h1 h2)]
          · simp only [if_pos h1, if_neg h2]
        · by_cases h2 : y.1 ≤ z.1
          · simp only [if_neg h1, if_pos h2]
          · simp only [if_neg h1, if_neg h2, if_neg (show ¬ x.1 ≤ z.1 by omega)]
theorem cmb_assoc (a b c : SS) : cmb (cmb a b) c = cmb a (cmb b c) := by
  unfold cmb
  dsimp only
  rw [Nat.add_assoc, pick_assoc]
theorem cmb_sz (a : SS) : cmb a sz = a := by
  unfold cmb sz
  dsimp only
  rw [pick_none]; rfl
theorem sz_cmb (a : SS) : cmb sz a = a := by
  unfold cmb sz
  dsimp only
  rw [Nat.zero_add]; rfl
def ncb (f : Nat → SS) : Nat → SS
  | 0 => sz
  | n + 1 => cmb (ncb f n) (f n)
theorem ncb_cong {f g : Nat → SS} : ∀ n, (∀ i, i < n → f i = g i) → ncb f n = ncb g n
  | 0, _ => rfl
  | n + 1, h => by rw [ncb, ncb, ncb_cong n (fun i hi => h i (by omega)), h n (by omega)]
section TREE
variable (al : Nat → Bool) (hold : (Nat → Nat) → Bool) (rk : (Nat → Nat) → Nat)
def lf (c : Nat → Nat) : SS := if hold c = true then (1, some (rk c, c)) else sz
def SM : List Nat → (Nat → Nat) → SS
  | [], c => lf hold rk c
  | o :: os, c => ncb (fun d => if al (d + 1) = true then SM os (chg c o (d + 1)) else sz) 10
/-- one way of the reference's sweep -/
def stp (Z : List Nat) : SS → Nat → (Nat → Nat) → SS := fun s _ c => if Z.all (fun o => al (c o)) = true then cmb s (lf hold rk c) else s
variable {al hold rk}
theorem all_chg {pre : List Nat} {c : Nat → Nat} {o d : Nat} (h : o ∉ pre) : (pre ++ [o]).all (fun x => al (chg c o d x)) = (pre.all (fun x => al (c x)) && al d) := by
  rw [List.all_append]
  have e1 : pre.all (fun x => al (chg c o d x)) = pre.all (fun x => al (c x)) := by
    rw [Bool.eq_iff_iff, List.all_eq_true, List.all_eq_true]
    have e : ∀ x, x ∈ pre → chg c o d x = c x := fun x hx => by
      unfold chg
      rw [if_neg (fun z => h (by rw [← z]; exact hx))]
    exact ⟨fun g x hx => by rw [← e x hx]; exact g x hx, fun g x hx => by rw [e x hx]; exact g x hx⟩
  rw [e1]
  congr 1
  rw [List.all_cons, List.all_nil, Bool.and_true]
  unfold chg
  rw [if_pos rfl]
theorem nfold_SM (w : Nat → Nat) : ∀ (os pre : List Nat) (c : Nat → Nat) (own : Nat) (s : SS), (pre ++ os).Nodup →
    nfold (stp al hold rk (pre ++ os)) w os c own s = if pre.all (fun o => al (c o)) = true then cmb s (SM al hold rk os c) else s := by
  intro os
  induction os with
  | nil =>
    intro pre c own s _
    rw [nfold, stp, SM, List.append_nil]
  | cons o os ih =>
    intro pre c own s hn
    have ho : o ∉ pre := fun h => by
      rw [List.nodup_append] at hn
      exact hn.2.2 o h o List.mem_cons_self rfl
    have happ : pre ++ o :: os = (pre ++ [o]) ++ os := by rw [List.append_assoc]; rfl
    rw [nfold, SM]
    have key : ∀ n, itr (fun s d => nfold (stp al hold rk (pre ++ o :: os)) w os (chg c o (d + 1)) (own * w (d + 1)) s) n s = if pre.all (fun o => al (c o)) = true then cmb s (ncb (fun d => if al (d + 1) = true then SM al hold rk os (chg c o (d + 1)) else sz) n) else s := by
      intro n
      induction n with
      | zero => rw [itr, ncb, cmb_sz, ite_self]
      | succ n ihn =>
        rw [itr, ihn, happ, ih (pre ++ [o]) (chg c o (n + 1)) _ _ (by rw [← happ]; exact hn), all_chg ho, ncb]
        by_cases h1 : pre.all (fun o => al (c o)) = true
        · rw [if_pos h1, if_pos h1, h1, Bool.true_and]
          by_cases h2 : al (n + 1) = true
          · rw [if_pos h2, if_pos h2, cmb_assoc]
          · rw [if_neg h2, if_neg h2, cmb_sz]
        · rw [if_neg h1, if_neg h1, if_neg (fun z => h1 (Bool.and_eq_true _ _ ▸ z).1)]
    exact key 10
/-- all codes of the reference give the summary of all ways -/
theorem codes_SM (w c : Nat → Nat) (zs : List Nat) (hn : zs.Nodup) : itr (fun s code => stp al hold rk zs s (1 * prd w (dgt zs.length code)) (asg c zs (dgt zs.length code))) (10 ^ zs.length) sz = SM al hold rk zs c := by
  rw [codes_fold]
  have := nfold_SM (al := al) (hold := hold) (rk := rk) w zs [] c 1 sz (by rw [List.nil_append]; exact hn)
  rw [List.nil_append] at this
  rw [this, List.all_nil, if_pos rfl, sz_cmb]
end TREE
/-! ===== the allowed counts ===== -/
theorem al_of {A : Int32} (h0 : A ≠ 0) (h : A &&& (-2047 : Int32) = 0) : ∃ a, A = nI a ∧ a < 2048 ∧ a ≠ 0 ∧ a.testBit 0 = false := by
  have h1 : A.toBitVec &&& (-2047 : Int32).toBitVec = 0 := by
    have := congrArg Int32.toBitVec h
    rw [Int32.toBitVec_and] at this
    exact this
  have h2 : A.toBitVec.toNat &&& 4294965249 = 0 := by
    have := congrArg BitVec.toNat h1
    rw [BitVec.toNat_and] at this
    exact this
  have hb : ∀ i, A.toBitVec.toNat.testBit i = true → (4294965249 : Nat).testBit i = false := fun i hi => by
    have : (A.toBitVec.toNat &&& 4294965249).testBit i = (0 : Nat).testBit i := by rw [h2]
    rw [Nat.testBit_and, hi, Bool.true_and, Nat.zero_testBit] at this
    exact this
  have hA : A = nI A.toBitVec.toNat := by
    apply Int32.toBitVec_inj.mp
    show A.toBitVec = (nI A.toBitVec.toNat).toBitVec
    apply BitVec.eq_of_toNat_eq
    show _ = (BitVec.ofNat 32 A.toBitVec.toNat).toNat
    rw [BitVec.toNat_ofNat, Nat.mod_eq_of_lt A.toBitVec.isLt]
  refine ⟨A.toBitVec.toNat, hA, ?_, fun z => h0 (by rw [hA, z]; rfl), ?_⟩
  · have : A.toBitVec.toNat < 2 ^ 11 := by
      apply Nat.lt_pow_two_of_testBit
      intro i hi
      cases hc : A.toBitVec.toNat.testBit i with
      | false => rfl
      | true =>
        exfalso
        have h3 := hb i hc
        by_cases h32 : i < 32
        · have : (4294965249 : Nat).testBit i = true := by
            have hh : ∀ j, j < 32 → 11 ≤ j → (4294965249 : Nat).testBit j = true := by decide
            exact hh i h32 hi
          rw [this] at h3; cases h3
        · have : A.toBitVec.toNat.testBit i = false := Nat.testBit_lt_two_pow (Nat.lt_of_lt_of_le A.toBitVec.isLt (Nat.pow_le_pow_right (by decide) (by omega)))
          rw [this] at hc; cases hc
    exact this
  · cases hc : A.toBitVec.toNat.testBit 0 with
    | false => rfl
    | true => have := hb 0 hc; revert this; decide
theorem al_bit {a d : Nat} (ha : a < 2048) (hd : d ≤ 10) : ((nI a >>> (nI d &&& 31)) &&& (1 : Int32)) = nI (if a.testBit d = true then 1 else 0) := by
  have h1 := pk_shrN (n := a) (by omega) (nI d &&& 31) d (s_l d (by omega))
  rw [h1, and1_0]
  congr 1
  have : (a / 2 ^ d).testBit 0 = a.testBit d := by rw [Nat.testBit_div_two_pow, Nat.zero_add]
  rw [← this, Nat.testBit_zero]
  by_cases e : a / 2 ^ d % 2 = 1
  · rw [e]; rfl
  · have e2 : a / 2 ^ d % 2 = 0 := by omega
    rw [e2]; rfl
