theorem fb_sm_0 (f : Nat → Nat) : fb_sm f 0 = 0 := rfl
theorem s_fill_6 : ∀ (n i : Nat) (m : Nat → Int64), i ≤ 1024 → 1024 - i < n → (∀ q, q < i → m q = lN 0) → ∃ m', f_J7_fill_d0a16_6 (0 : Int64) n (nI i) (1024 : Int32) m = some m' ∧ RW m' (fun _ => 0) := by
  intro n
  induction n with
  | zero => intro i m h1 h2; omega
  | succ n ih =>
    intro i m h1 h2 hm
    rw [f_J7_fill_d0a16_6]
    by_cases e : i = 1024
    · subst e; exact ⟨m, by rw [q_1024, if_pos (ile (Nat.le_refl _) (by omega))], hm⟩
    · rw [if_neg (show ¬ (1024 : Int32) ≤ nI i from inle (b := 1024) (by omega) (by omega)), inB_t (by omega) (by omega), ck_t, ix_nI (by omega), nI_p1]
      refine ih (i + 1) _ (by omega) (by omega) (fun q hq => ?_)
      unfold vp_updL
      by_cases e2 : q = i
      · rw [if_pos e2]; rfl
      · rw [if_neg e2]; exact hm q (by omega)
theorem s_fill (m : Nat → Int64) : ∃ m', f_J7_fill_d0a16 (0 : Int64) m = some m' ∧ RW m' (fun _ => 0) :=
  s_fill_6 FU 0 m (by omega) (FU_ge (by omega)) (fun q h => by omega)
section DP2
variable {c w : Nat → Nat} {P W st : Nat}
theorem LL_zero (h : Nat → Nat) : LL (fun _ => 0) h = 0 := by
  unfold LL
  rw [fb_sm_cong (g := fun _ => 0) (fun k _ => Nat.zero_mul _), fb_sm_const, Nat.mul_zero]
theorem s_goOnFrom {p : Nat} {wt ct : Nat → Int32} (hP : P ≤ 40) (hp : p < P) (hct : ct p = nI (c p)) (hc10 : c p ≤ 10) (hW : W ≤ 12) (hst : st < 2 ^ 63) (hw : ∀ d, 1 ≤ d → d ≤ 10 → wt d = nI (w d) ∧ w d ≤ 9) {nowA m0 : Nat → Int64} {nw : Nat → Nat} (hnow : ∀ q, q < 1024 → nowA q = lN (nw q) ∧ nw q < 2 ^ 62) (hm0 : RW m0 (fun _ => 0)) (won0 : Nat) :
    ∃ m' nx', f_X0_goOnFrom (nI p) (nI (fac c W p)) (lN st) (lN won0) (nI P) wt nowA ct m0 = some (lN (won0 + fb_sm (fun s => nw s * gW c W st p s) 1024), m') ∧ RW m' nx' ∧ ∀ h, LL nx' h = fb_sm (fun s => nw s * gN c w P W st p h s) 1024 := by
  obtain ⟨m', nx', k1, k2, k3⟩ := s_goOn_44 (st := st) (nx0 := fun _ => 0) hP hp hct hc10 hW hw hnow won0 FU 0 m0 (fun _ => 0) won0 (by omega) (FU_ge (by omega)) hm0 (by rw [fb_sm_0, Nat.add_zero]) (fun h => by rw [fb_sm_0, Nat.add_zero])
  refine ⟨m', nx', ?_, k2, fun h => by rw [k3 h, LL_zero, Nat.zero_add]⟩
  rw [f_X0_goOnFrom, nI_p1]
  have sh : jlushr (lN st) (nI (p + 1)) = lN (st / 2 ^ (p + 1)) := wb_shr (by omega) (by omega)
  have hlt : st / 2 ^ (p + 1) < 2 ^ 63 := Nat.lt_of_le_of_lt (Nat.div_le_self _ _) hst
  rw [sh]
  have key : ∀ s0 : Int32, s0 = b01 (abg st p) → f_X0_goOnFrom_16 (nI p) (nI (fac c W p)) (lN st) (nI P) wt nowA ct s0 (lN won0) m0 = some (lN (won0 + fb_sm (fun s => nw s * gW c W st p s) 1024), m') := by
    intro s0 hs0
    subst hs0
    rw [f_X0_goOnFrom_16, q_10, nI_add]
    have k1' : f_X0_goOnFrom_44 (nI p) (nI (fac c W p)) (nI P) wt nowA ct FU (b01 (abg st p)) (nI (bgn st p)) (0 : Int32) (lN won0) m0 = _ := k1
    unfold bgn at k1'
    cases hb : st.testBit (p + 10) with
    | true =>
      rw [hb, if_pos rfl] at k1'
      rw [if_neg (fun q => by rw [(tb_test (by omega) (by omega)).mp q] at hb; cases hb)]
      exact k1'
    | false =>
      rw [hb, if_neg (by decide)] at k1'
      rw [if_pos ((tb_test (by omega) (by omega)).mpr hb)]
      exact k1'
  by_cases e : st / 2 ^ (p + 1) = 0
  · rw [if_pos ((lgz hlt).mpr e)]
    exact key 1 (by unfold abg; rw [decide_eq_true e]; rfl)
  · rw [if_neg (fun q => e ((lgz hlt).mp q))]
    exact key 0 (by unfold abg; rw [decide_eq_false e]; rfl)
/-- the weight of all places from p on -/
def Wt (c : Nat → Nat) (W P : Nat) : Nat → Nat
  | 0 => 1
  | r + 1 => fac c W (P - (r + 1)) * Wt c W P r
def TT (c w : Nat → Nat) (P W st : Nat) : Nat → Nat → Nat
  | 0, _ => 0
  | r + 1, set => gW c W st (P - (r + 1)) set * Wt c W P r + gN c w P W st (P - (r + 1)) (TT c w P W st r) set
def SW (w : Nat → Nat) : Nat := fb_sm (fun d => w (d + 1)) 10
theorem gN_one {p set : Nat} (hWs : W = SW w) : gN c w P W st p (fun _ => 1) set ≤ fac c W p := by
  unfold gN
  by_cases e1 : set = 1 ∧ abg st p = true
  · rw [if_pos e1]; exact Nat.zero_le _
  · rw [if_neg e1]
    by_cases e2 : set % 2 = 0
    · rw [if_pos e2, Nat.mul_one]; exact Nat.le_refl _
    · rw [if_neg e2]
      by_cases e3 : c p = 0
      · rw [if_pos e3]
        unfold fac
        rw [if_pos e3, hWs]
        exact fb_sm_le (fun k _ => by
          by_cases e4 : p + (k + 1) < P
          · rw [if_pos e4, Nat.mul_one]; exact Nat.le_refl _
          · rw [if_neg e4]; exact Nat.zero_le _)
      · rw [if_neg e3]
        unfold fac
        rw [if_neg e3]
        by_cases e4 : p + c p < P
        · rw [if_pos e4]; exact Nat.le_refl 1
        · rw [if_neg e4]; exact Nat.zero_le _
/-- the product of the factors of the places below p -/
def Wb (c : Nat → Nat) (W : Nat) : Nat → Nat
  | 0 => 1
  | p + 1 => Wb c W p * fac c W p
theorem sm_mul (k : Nat) (f : Nat → Nat) : ∀ n, fb_sm (fun i => k * f i) n = k * fb_sm f n
  | 0 => by rw [show fb_sm f 0 = 0 from rfl, Nat.mul_zero]; rfl
  | n + 1 => by rw [fb_sm_succ, fb_sm_succ, sm_mul k f n, Nat.mul_add]
theorem sm_mulr (k : Nat) (f : Nat → Nat) (n : Nat) : fb_sm (fun i => f i * k) n = fb_sm f n * k := by
  rw [fb_sm_cong (g := fun i => k * f i) (fun i _ => Nat.mul_comm _ _), sm_mul, Nat.mul_comm]
theorem s_reckon_34 {wt ct : Nat → Int32} (hP : P ≤ 40) (hct : AR ct c P) (hc10 : ∀ i, i < P → c i ≤ 10) (hW : W ≤ 12) (hWs : W = SW w) (hst : st < 2 ^ 63) (hw : ∀ d, 1 ≤ d → d ≤ 10 → wt d = nI (w d) ∧ w d ≤ 9) (hWb : ∀ p, p ≤ P → Wb c W p < 2 ^ 60) : ∀ (n p : Nat) (nowA nextA : Nat → Int64) (nw : Nat → Nat) (won tog : Nat), p ≤ P → P - p < n → RW nowA nw → LL nw (fun _ => 1) ≤ Wb c W p →
    ∃ n1 n2, f_X0_reckon_34 (nI W) (lN st) (nI P) wt ct n (nI p) (lN won) (lN tog) nowA nextA = some (lN (won * Wt c W P (P - p) + LL nw (TT c w P W st (P - p))), lN (tog * Wt c W P (P - p)), n1, n2) := by
  intro n
  induction n with
  | zero => intro p nowA nextA nw won tog h1 h2; omega
  | succ n ih =>
    intro p nowA nextA nw won tog h1 h2 hnow hL
    rw [f_X0_reckon_34]
    by_cases e : p = P
    · subst e
      rw [if_pos (ile (Nat.le_refl _) (by omega)), Nat.sub_self]
      refine ⟨nowA, nextA, ?_⟩
      have : LL nw (TT c w p W st 0) = 0 := by
        unfold LL
        rw [fb_sm_cong (g := fun _ => 0) (fun k _ => by rw [TT, Nat.mul_zero]), fb_sm_const, Nat.mul_zero]
      rw [this, Wt, Nat.mul_one, Nat.mul_one, Nat.add_zero]
    · have hp : p < P := by omega
      have hfac : fac c W p ≤ 12 := by unfold fac; split <;> omega
      obtain ⟨r, hr⟩ : ∃ r, P - p = r + 1 := ⟨P - p - 1, by omega⟩
      have hpr : P - (r + 1) = p := by omega
      obtain ⟨m0, f1, f2⟩ := s_fill nextA
      have hnw : ∀ q, q < 1024 → nowA q = lN (nw q) ∧ nw q < 2 ^ 62 := fun q hq => by
        refine ⟨hnow q hq, ?_⟩
        have h3 := fb_sm_part (fun q => nw q * 1) hq
        have h4 := hWb p h1
        have hL2 : fb_sm (fun q => nw q * 1) 1024 ≤ Wb c W p := hL
        have h6 : nw q * 1 ≤ fb_sm (fun q => nw q * 1) 1024 := Nat.le_trans (Nat.le_add_left _ _) h3
        rw [Nat.mul_one] at h6
        exact Nat.lt_of_le_of_lt (Nat.le_trans h6 hL2) (Nat.lt_trans h4 (by decide))
      obtain ⟨m', nx', k1, k2, k3⟩ := s_goOnFrom (st := st) (w := w) hP hp (hct p hp) (hc10 p hp) hW hst hw hnw f2 (won * fac c W p)
      have hfin : ∃ n1 n2, f_X0_reckon_58 (lN st) (nI P) wt ct (f_X0_reckon_34 (nI W) (lN st) (nI P) wt ct n) (nI p) (nI (fac c W p)) (lN won) (lN tog) nowA nextA = some (lN (won * Wt c W P (P - p) + LL nw (TT c w P W st (P - p))), lN (tog * Wt c W P (P - p)), n1, n2) := by
        rw [f_X0_reckon_58, f1, bd_s, nI_l (by omega), lN_mul, k1, bd_s]
        dsimp only
        rw [lN_mul, nI_p1]
        have hL' : LL nx' (fun _ => 1) ≤ Wb c W (p + 1) := by
          rw [k3, Wb]
          have h5 : fb_sm (fun s => nw s * gN c w P W st p (fun _ => 1) s) 1024 ≤ fb_sm (fun s => nw s * 1 * fac c W p) 1024 := fb_sm_le (fun s _ => by rw [Nat.mul_one]; exact Nat.mul_le_mul_left _ (gN_one hWs))
          rw [sm_mulr] at h5
          exact Nat.le_trans h5 (Nat.mul_le_mul_right _ hL)
        obtain ⟨n1, n2, j1⟩ := ih (p + 1) m' nowA nx' (won * fac c W p + fb_sm (fun s => nw s * gW c W st p s) 1024) (tog * fac c W p) (by omega) (by omega) k2 hL'
        refine ⟨n1, n2, ?_⟩
        rw [j1, show P - (p + 1) = r by omega, hr, k3]
        have e5 : tog * fac c W p * Wt c W P r = tog * Wt c W P (r + 1) := by rw [Wt, hpr, Nat.mul_assoc]
        have e6 : (won * fac c W p + fb_sm (fun s => nw s * gW c W st p s) 1024) * Wt c W P r + fb_sm (fun s => nw s * gN c w P W st p (TT c w P W st r) s) 1024 = won * Wt c W P (r + 1) + LL nw (TT c w P W st (r + 1)) := by
          have e7 : fb_sm (fun s => nw s * gW c W st p s * Wt c W P r + nw s * gN c w P W st p (TT c w P W st r) s) 1024 = LL nw (TT c w P W st (r + 1)) := by
            unfold LL
            apply fb_sm_cong
            intro s _
            rw [TT, hpr, Nat.mul_add, Nat.mul_assoc]
          rw [Nat.add_mul, Wt, hpr, Nat.mul_assoc, Nat.add_assoc, ← sm_mulr, ← fb_sm_add, e7]
        rw [e5, e6]
      rw [if_neg (inle hp (by omega)), inB_t (by omega) (by omega), ck_t, ix_nI (by omega), hct p hp]
      by_cases e0 : c p = 0
      · rw [e0, if_pos (show nI 0 = 0 from rfl)]
        have : fac c W p = W := by unfold fac; rw [if_pos e0]
        rw [this] at hfin; exact hfin
      · have h10 := hc10 p hp
        rw [if_neg (by rw [q_0]; exact ine e0 (by omega) (by omega))]
        have : fac c W p = 1 := by unfold fac; rw [if_neg e0]
        rw [this] at hfin; exact hfin
theorem s_reckon {wt ct : Nat → Int32} (hP : P ≤ 40) (hct : AR ct c P) (hc10 : ∀ i, i < P → c i ≤ 10) (hW : W ≤ 12) (hWs : W = SW w) (hst : st < 2 ^ 63) (hw : ∀ d, 1 ≤ d → d ≤ 10 → wt d = nI (w d) ∧ w d ≤ 9) (hWb : ∀ p, p ≤ P → Wb c W p < 2 ^ 60) (nowA nextA : Nat → Int64) :
    ∃ n1 n2, f_X0_reckon (nI W) (lN st) (nI P) wt nowA ct nextA = some (lN (TT c w P W st P (st % 1024)), lN (Wt c W P P), n1, n2) := by
  obtain ⟨m0, f1, f2⟩ := s_fill nowA
  have hs : st % 1024 < 1024 := Nat.mod_lt _ (by decide)
  have e1 : (lN st &&& (1023 : Int64)).toInt32 = nI (st % 1024) := by
    rw [show (1023 : Int64) = lN (2 ^ 10 - 1) from rfl, fb_maskL, lN_i]
  rw [f_X0_reckon, f1, bd_s, e1, inB_t hs (by decide), ck_t, ix_nI (by omega)]
  have hnow : RW (vp_updL m0 (st % 1024) (1 : Int64)) (lad (fun _ => 0) (st % 1024) 1) := fun q hq => by
    unfold vp_updL lad
    by_cases e : q = st % 1024
    · rw [if_pos e, if_pos e]; rfl
    · rw [if_neg e, if_neg e]; exact f2 q hq
  obtain ⟨n1, n2, k⟩ := s_reckon_34 (st := st) (nw := lad (fun _ => 0) (st % 1024) 1) hP hct hc10 hW hWs hst hw hWb FU 0 _ nextA 0 1 (Nat.zero_le _) (FU_ge (by omega)) hnow (by rw [LL_lad hs, LL_zero]; exact Nat.le_refl _)
  refine ⟨n1, n2, ?_⟩
  rw [Nat.sub_zero, LL_lad hs, LL_zero, Nat.zero_mul, Nat.zero_add, Nat.zero_add, Nat.one_mul, Nat.one_mul] at k
  exact k
/-! ===== what the sweep tells ===== -/
/-- all that stand on a set come out at one place: by going over the places -/
def okb (c : Nat → Nat) (P st : Nat) : Nat → Nat → Bool
  | 0, _ => false
  | r + 1, set => if set = 1 ∧ abg st (P - (r + 1)) = true then true else if set % 2 = 0 then okb c P st r (rst st (P - (r + 1)) set) else if P - (r + 1) + c (P - (r + 1)) < P then okb c P st r (rst st (P - (r + 1)) set ||| 2 ^ (c (P - (r + 1)) - 1)) else false
theorem okb_cong {c c' : Nat → Nat} : ∀ (r set : Nat), r ≤ P → (∀ q, P - r ≤ q → q < P → c q = c' q) → okb c P st r set = okb c' P st r set := by
  intro r
  induction r with
  | zero => intro set _ h; rfl
  | succ r ih =>
    intro set hr h
    have e := h (P - (r + 1)) (Nat.le_refl _) (by omega)
    rw [okb, okb, e, ih _ (by omega) (fun q h1 h2 => h q (by omega) h2), ih _ (by omega) (fun q h1 h2 => h q (by omega) h2)]
/-- weighted sum over all ways -/
def nsw (φ : (Nat → Nat) → Bool) (w : Nat → Nat) : List Nat → (Nat → Nat) → Nat
  | [], c => if φ c = true then 1 else 0
  | o :: os, c => fb_sm (fun d => w (d + 1) * nsw φ w os (chg c o (d + 1))) 10
theorem nfold_nsw (φ : (Nat → Nat) → Bool) (w : Nat → Nat) : ∀ (zs : List Nat) (c : Nat → Nat) (own s : Nat), nfold (fun s own c => s + own * (if φ c = true then 1 else 0)) w zs c own s = s + own * nsw φ w zs c := by
  intro zs
  induction zs with
  | nil => intro c own s; rfl
  | cons o os ih =>
    intro c own s
    rw [nfold, nsw]
    have key : ∀ n, itr (fun s d => nfold (fun s own c => s + own * (if φ c = true then 1 else 0)) w os (chg c o (d + 1)) (own * w (d + 1)) s) n s = s + own * fb_sm (fun d => w (d + 1) * nsw φ w os (chg c o (d + 1))) n := by
      intro n
      induction n with
      | zero => rw [show fb_sm (fun d => w (d + 1) * nsw φ w os (chg c o (d + 1))) 0 = 0 from rfl, Nat.mul_zero]; rfl
      | succ n ihn => rw [itr, ihn, ih, fb_sm_succ, Nat.mul_add, Nat.mul_assoc, Nat.add_assoc]
    exact key 10
theorem nsw_cong {φ ψ : (Nat → Nat) → Bool} {w : Nat → Nat} : ∀ (zs : List Nat) (c : Nat → Nat), (∀ q, q < P → q ∉ zs → 1 ≤ c q ∧ c q ≤ 10) → (∀ c', okc c' P → φ c' = ψ c') → nsw φ w zs c = nsw ψ w zs c := by
  intro zs
  induction zs with
  | nil => intro c h1 h2; rw [nsw, nsw, h2 c (fun q hq => h1 q hq (by simp))]
  | cons o os ih =>
    intro c h1 h2
    rw [nsw, nsw]
    apply fb_sm_cong
    intro d hd
    rw [ih _ (fun q hq hqn => ?_) h2]
    unfold chg
    by_cases e : q = o
    · rw [if_pos e]; omega
    · rw [if_neg e]
      exact h1 q hq (fun h => by
        rcases List.mem_cons.mp h with h | h
        · exact e h
        · exact hqn h)
/-- the open places from p on -/
def zf (c : Nat → Nat) (P : Nat) : Nat → List Nat
  | 0 => []
  | r + 1 => if c (P - (r + 1)) = 0 then (P - (r + 1)) :: zf c P r else zf c P r
theorem nsw_true {w : Nat → Nat} {φ : (Nat → Nat) → Bool} (hWs : W = SW w) : ∀ (r : Nat) (c' : Nat → Nat), (∀ x, φ x = true) → nsw φ w (zf c P r) c' = Wt c W P r := by
  intro r
  induction r with
  | zero => intro c' h; rw [zf, nsw, h, if_pos rfl]; rfl
  | succ r ih =>
    intro c' h
    rw [zf, Wt]
    by_cases e : c (P - (r + 1)) = 0
    · rw [if_pos e, nsw, fb_sm_cong (g := fun d => w (d + 1) * Wt c W P r) (fun d _ => by rw [ih _ h]), sm_mulr]
      unfold fac
      rw [if_pos e, hWs]; rfl
    · rw [if_neg e, ih c' h]
      unfold fac
      rw [if_neg e, Nat.one_mul]
theorem nsw_false {w : Nat → Nat} {φ : (Nat → Nat) → Bool} : ∀ (zs : List Nat) (c' : Nat → Nat), (∀ x, φ x = false) → nsw φ w zs c' = 0 := by
  intro zs
  induction zs with
  | nil => intro c' h; rw [nsw, h]; rfl
  | cons o os ih =>
    intro c' h
    rw [nsw, fb_sm_cong (g := fun _ => 0) (fun d _ => by rw [ih _ h, Nat.mul_zero]), fb_sm_const, Nat.mul_zero]
theorem nsw_ext {w : Nat → Nat} {φ ψ : (Nat → Nat) → Bool} {Q : (Nat → Nat) → Prop} : ∀ (zs : List Nat) (c' : Nat → Nat), (∀ x o d, Q x → o ∈ zs → Q (chg x o d)) → Q c' → (∀ x, Q x → φ x = ψ x) → nsw φ w zs c' = nsw ψ w zs c' := by
  intro zs
  induction zs with
  | nil => intro c' h1 h2 h3; rw [nsw, nsw, h3 c' h2]
  | cons o os ih =>
    intro c' h1 h2 h3
    rw [nsw, nsw]
    apply fb_sm_cong
    intro d _
    rw [ih _ (fun x o' d' hx ho => h1 x o' d' hx (List.mem_cons_of_mem _ ho)) (h1 c' o _ h2 List.mem_cons_self) h3]
theorem zf_ge : ∀ (r o : Nat), r ≤ P → o ∈ zf c P r → P - r ≤ o ∧ o < P ∧ c o = 0 := by
  intro r
  induction r with
  | zero => intro o _ h; rw [zf] at h; cases h
  | succ r ih =>
    intro o hr h
    rw [zf] at h
    by_cases e : c (P - (r + 1)) = 0
    · rw [if_pos e] at h
      rcases List.mem_cons.mp h with h | h
      · subst h; exact ⟨Nat.le_refl _, by omega, e⟩
      · have := ih o (by omega) h; exact ⟨by omega, this.2⟩
    · rw [if_neg e] at h
      have := ih o (by omega) h; exact ⟨by omega, this.2⟩
/-- the sweep's number is the weighted sum over all ways -/
theorem TT_nsw (hWs : W = SW w) : ∀ (r set : Nat) (c' : Nat → Nat), r ≤ P → (∀ q, P - r ≤ q → q < P → c q ≠ 0 → c' q = c q) → TT c w P W st r set = nsw (fun x => okb x P st r set) w (zf c P r) c' := by
  intro r
  induction r with
  | zero => intro set c' _ _; rfl
  | succ r ih =>
    intro set c' hr hc'
    have hpP : P - (r + 1) < P := by omega
    have hpr : P - r = P - (r + 1) + 1 := by omega
    generalize hp : P - (r + 1) = p at hpP hpr
    rw [TT, hp]
    unfold gW gN
    by_cases e1 : set = 1 ∧ abg st p = true
    · rw [if_pos e1, if_pos e1, Nat.add_zero]
      have := nsw_true (P := P) (c := c) (W := W) (w := w) (φ := fun x => okb x P st (r + 1) set) hWs (r + 1) c' (fun x => by rw [okb, hp, if_pos e1])
      rw [this, Wt, hp]
    · rw [if_neg e1, if_neg e1, Nat.zero_mul, Nat.zero_add]
      have inner : ∀ (s' : Nat) (x : Nat → Nat), (∀ q, P - r ≤ q → q < P → c q ≠ 0 → x q = c q) → nsw (fun y => okb y P st r s') w (zf c P r) x = TT c w P W st r s' := fun s' x hx => (ih s' x (by omega) hx).symm
      by_cases e2 : set % 2 = 0
      · rw [if_pos e2]
        have hφ : ∀ x, okb x P st (r + 1) set = okb x P st r (rst st p set) := fun x => by rw [okb, hp, if_neg e1, if_pos e2]
        rw [zf, hp]
        by_cases e3 : c p = 0
        · rw [if_pos e3, nsw, fb_sm_cong (g := fun d => w (d + 1) * TT c w P W st r (rst st p set)) (fun d _ => ?_), sm_mulr]
          · unfold fac; rw [if_pos e3, hWs]; rfl
          · rw [show (fun x => okb x P st (r + 1) set) = fun x => okb x P st r (rst st p set) from funext hφ, inner]
            intro q h1 h2 h3
            unfold chg
            rw [if_neg (by omega)]; exact hc' q (by omega) h2 h3
        · rw [if_neg e3, show (fun x => okb x P st (r + 1) set) = fun x => okb x P st r (rst st p set) from funext hφ, inner _ c' (fun q h1 h2 h3 => hc' q (by omega) h2 h3)]
          unfold fac; rw [if_neg e3, Nat.one_mul]
      · rw [if_neg e2, zf, hp]
        have hφ : ∀ x, okb x P st (r + 1) set = if p + x p < P then okb x P st r (rst st p set ||| 2 ^ (x p - 1)) else false := fun x => by rw [okb, hp, if_neg e1, if_neg e2]
        have fixed : ∀ (v : Nat) (x : Nat → Nat), x p = v → (∀ q, P - r ≤ q → q < P → c q ≠ 0 → x q = c q) → nsw (fun y => okb y P st (r + 1) set) w (zf c P r) x = if p + v < P then TT c w P W st r (rst st p set ||| 2 ^ (v - 1)) else 0 := by
          intro v x hxv hx
          have hE := nsw_ext (w := w) (φ := fun y => okb y P st (r + 1) set) (ψ := fun y => if p + v < P then okb y P st r (rst st p set ||| 2 ^ (v - 1)) else false) (Q := fun y => y p = v) (zf c P r) x (fun y o d hy ho => by
            have := zf_ge r o (by omega) ho
            show chg y o d p = v
            unfold chg
            rw [if_neg (by omega)]; exact hy) hxv (fun y hy => by
              show okb y P st (r + 1) set = _
              rw [hφ y]
              have hy' : y p = v := hy
              rw [hy'])
          rw [hE]
          by_cases e4 : p + v < P
          · rw [if_pos e4]
            have : (fun y => if p + v < P then okb y P st r (rst st p set ||| 2 ^ (v - 1)) else false) = fun y => okb y P st r (rst st p set ||| 2 ^ (v - 1)) := by funext y; rw [if_pos e4]
            rw [this, inner _ x hx]
          · rw [if_neg e4]
            exact nsw_false _ _ (fun y => by rw [if_neg e4])
        by_cases e3 : c p = 0
        · rw [if_pos e3, if_pos e3, nsw]
          apply fb_sm_cong
          intro d _
          rw [fixed (d + 1) (chg c' p (d + 1)) (by unfold chg; rw [if_pos rfl]) (fun q h1 h2 h3 => by
            unfold chg
            rw [if_neg (by omega)]; exact hc' q (by omega) h2 h3)]
          by_cases e4 : p + (d + 1) < P
          · rw [if_pos e4, if_pos e4, Nat.add_sub_cancel]
          · rw [if_neg e4, if_neg e4, Nat.mul_zero]
        · rw [if_neg e3, if_neg e3, fixed (c p) c' (hc' p (by omega) hpP e3) (fun q h1 h2 h3 => hc' q (by omega) h2 h3)]
theorem zf_zl : ∀ r, r ≤ P → zl c P = zl c (P - r) ++ zf c P r := by
  intro r
  induction r with
  | zero => intro _; rw [zf, List.append_nil, Nat.sub_zero]
  | succ r ih =>
    intro hr
    rw [ih (by omega), show P - r = P - (r + 1) + 1 by omega, zl_succ, zf, List.append_assoc]
    congr 1
    by_cases e : c (P - (r + 1)) = 0
    · rw [if_pos e, if_pos e]; rfl
    · rw [if_neg e, if_neg e]; rfl
theorem zf_all : zf c P P = zl c P := by
  have := zf_zl (c := c) (P := P) P (Nat.le_refl _)
  rw [Nat.sub_self] at this
  exact this.symm
end DP2
