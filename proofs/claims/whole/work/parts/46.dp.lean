/-! ===== CHANCES: the class's sweep over sets of places ===== -/
def LL (nx h : Nat → Nat) : Nat := fb_sm (fun q => nx q * h q) 1024
def lad (nx : Nat → Nat) (q v : Nat) : Nat → Nat := fun j => if j = q then nx q + v else nx j
theorem LL_lad {nx h : Nat → Nat} {q v : Nat} (hq : q < 1024) : LL (lad nx q v) h = LL nx h + v * h q := by
  unfold LL
  have e : (fun j => lad nx q v j * h j) = fun j => if j = q then (nx q + v) * h q else nx j * h j := by
    funext j
    unfold lad
    by_cases e : j = q
    · rw [if_pos e, if_pos e, e]
    · rw [if_neg e, if_neg e]
  have h1 : fb_sm (fun j => if j = q then (nx q + v) * h q else nx j * h j) 1024 + nx q * h q = fb_sm (fun j => nx j * h j) 1024 + (nx q + v) * h q := fb_sm_upd (fun j => nx j * h j) ((nx q + v) * h q) hq
  rw [e]
  have h2 : (nx q + v) * h q = nx q * h q + v * h q := Nat.add_mul _ _ _
  generalize (nx q + v) * h q = A1 at h1 h2 ⊢
  generalize nx q * h q = A2 at h1 h2
  omega
def RW (m : Nat → Int64) (nx : Nat → Nat) : Prop := ∀ q, q < 1024 → m q = lN (nx q)
theorem RW_lad {m : Nat → Int64} {nx : Nat → Nat} {q v : Nat} (hq : q < 1024) (h : RW m nx) : RW (vp_updL m q (m q + lN v)) (lad nx q v) := fun j hj => by
  unfold vp_updL lad
  by_cases e : j = q
  · rw [if_pos e, if_pos e, h q hq, lN_add]
  · rw [if_neg e, if_neg e]; exact h j hj
theorem or_1024 {a b : Nat} (ha : a < 1024) (hb : b < 1024) : a ||| b < 1024 := Nat.or_lt_two_pow (n := 10) ha hb
theorem shl1 {d : Nat} (hd : d ≤ 9) : (1 : Int32) <<< (nI d &&& 31) = nI (2 ^ d) := by
  have h := pk_shlN (n := 1) (nI d &&& 31) d (s_l d (by omega)) (by
    rw [Nat.one_mul]; exact Nat.lt_of_le_of_lt (Nat.pow_le_pow_right (by decide) hd) (by decide))
  rw [Nat.one_mul] at h
  exact h
theorem s_land {P p d rest v : Nat} (hP : P ≤ 40) (hp : p < P) (hd1 : 1 ≤ d) (hd : d ≤ 10) (hr : rest < 1024) {m : Nat → Int64} {nx : Nat → Nat} (hm : RW m nx) :
    ∃ m', f_X0_land (nI p) (nI d) (nI P) (nI rest) (lN v) m = some m' ∧ RW m' (if p + d < P then lad nx (rest ||| 2 ^ (d - 1)) v else nx) := by
  have h2 : 2 ^ (d - 1) < 1024 := Nat.lt_of_le_of_lt (Nat.pow_le_pow_right (by decide) (show d - 1 ≤ 9 by omega)) (by decide)
  have h3 := or_1024 hr h2
  rw [f_X0_land, nI_add]
  by_cases h : p + d < P
  · rw [if_neg (inle h (by omega)), if_pos h, nI_m1 hd1, shl1 (by omega), fa_or, inB_t h3 (by decide), ck_t, ix_nI (by omega)]
    exact ⟨_, rfl, RW_lad h3 hm⟩
  · rw [if_pos (ile (by omega) (by omega)), if_neg h]
    exact ⟨_, rfl, hm⟩
/-- one drawn place: all its counts by their weights -/
def ldw (P p rest v : Nat) (w : Nat → Nat) : Nat → (Nat → Nat) → (Nat → Nat)
  | 0, nx => nx
  | i + 1, nx => if p + (i + 1) < P then lad (ldw P p rest v w i nx) (rest ||| 2 ^ i) (v * w (i + 1)) else ldw P p rest v w i nx
theorem LL_ldw {P p rest v : Nat} {w nx h : Nat → Nat} (hr : rest < 1024) : ∀ i, i ≤ 10 → LL (ldw P p rest v w i nx) h = LL nx h + v * fb_sm (fun d => if p + (d + 1) < P then w (d + 1) * h (rest ||| 2 ^ d) else 0) i
  | 0, _ => by rw [ldw, show fb_sm (fun d => if p + (d + 1) < P then w (d + 1) * h (rest ||| 2 ^ d) else 0) 0 = 0 from rfl, Nat.mul_zero, Nat.add_zero]
  | i + 1, hi => by
    have ih := LL_ldw (P := P) (p := p) (v := v) (w := w) (nx := nx) (h := h) hr i (by omega)
    have h2 : 2 ^ i < 1024 := Nat.lt_of_le_of_lt (Nat.pow_le_pow_right (by decide) (show i ≤ 9 by omega)) (by decide)
    rw [ldw, fb_sm_succ, Nat.mul_add]
    by_cases e : p + (i + 1) < P
    · rw [if_pos e, if_pos e, LL_lad (or_1024 hr h2), ih, Nat.mul_assoc, Nat.add_assoc]
    · rw [if_neg e, if_neg e, ih, Nat.mul_zero, Nat.add_zero]
theorem s_landW_3 {P p rest v : Nat} {wt : Nat → Int32} {w : Nat → Nat} (hP : P ≤ 40) (hp : p < P) (hr : rest < 1024) (hw : ∀ d, 1 ≤ d → d ≤ 10 → wt d = nI (w d) ∧ w d ≤ 9) : ∀ (n i : Nat) (m : Nat → Int64) (nx0 : Nat → Nat), i ≤ 10 → 10 - i < n → RW m (ldw P p rest v w i nx0) →
    ∃ m', f_X0_landByWeights_3 (nI p) (nI P) (nI rest) (lN v) wt n (nI (i + 1)) m = some m' ∧ RW m' (ldw P p rest v w 10 nx0) := by
  intro n
  induction n with
  | zero => intro i m nx0 h1 h2; omega
  | succ n ih =>
    intro i m nx0 h1 h2 hm
    rw [f_X0_landByWeights_3, q_10]
    by_cases e : i = 10
    · subst e; exact ⟨m, by rw [if_pos (ilt (by omega) (by omega))], hm⟩
    · have hwd := hw (i + 1) (by omega) (by omega)
      rw [if_neg (inlt (by omega) (by omega)), inB_t (by omega) (by omega), ck_t, ix_nI (by omega), hwd.1, nI_l (by omega), lN_mul, nI_p1]
      obtain ⟨m', k1, k2⟩ := s_land (v := v * w (i + 1)) hP hp (show 1 ≤ i + 1 by omega) (show i + 1 ≤ 10 by omega) hr hm
      rw [k1, bd_s]
      refine ih (i + 1) m' nx0 (by omega) (by omega) ?_
      rw [ldw]
      exact k2
section DP
variable {c w : Nat → Nat} {P W st : Nat}
def fac (c : Nat → Nat) (W p : Nat) : Nat := if c p = 0 then W else 1
def bgn (st p : Nat) : Nat := if st.testBit (p + 10) = true then 512 else 0
def abg (st p : Nat) : Bool := decide (st / 2 ^ (p + 1) = 0)
def rst (st p set : Nat) : Nat := set / 2 ||| bgn st p
def gW (c : Nat → Nat) (W st p set : Nat) : Nat := if set = 1 ∧ abg st p = true then fac c W p else 0
def gN (c w : Nat → Nat) (P W st p : Nat) (h : Nat → Nat) (set : Nat) : Nat :=
  if set = 1 ∧ abg st p = true then 0 else if set % 2 = 0 then fac c W p * h (rst st p set) else if c p = 0 then fb_sm (fun d => if p + (d + 1) < P then w (d + 1) * h (rst st p set ||| 2 ^ d) else 0) 10 else if p + c p < P then h (rst st p set ||| 2 ^ (c p - 1)) else 0
theorem rst_lt {p set : Nat} (h : set < 1024) : rst st p set < 1024 := by
  unfold rst
  apply or_1024 (by omega)
  unfold bgn
  by_cases e : st.testBit (p + 10) = true
  · rw [if_pos e]; decide
  · rw [if_neg e]; decide
theorem and1_0 {n : Nat} : (nI n &&& (1 : Int32)) = nI (n % 2) := by
  have := fa_mask n 1
  exact this
theorem s_goOn_109 {p set : Nat} {wt ct : Nat → Int32} (hP : P ≤ 40) (hp : p < P) (hct : ct p = nI (c p)) (hc10 : c p ≤ 10) (hW : W ≤ 12) (hw : ∀ d, 1 ≤ d → d ≤ 10 → wt d = nI (w d) ∧ w d ≤ 9) (hset : set < 1024) (hno : ¬ (set = 1 ∧ abg st p = true)) (v : Nat) {m : Nat → Int64} {nx : Nat → Nat} (hm : RW m nx) (K : Int32 → Int32 → Int32 → Int64 → (Nat → Int64) → Option (Int64 × (Nat → Int64))) (v7 v8 : Int32) (wn : Int64) :
    ∃ m' nx', f_X0_goOnFrom_109 (nI p) (nI (fac c W p)) (nI P) wt ct K v7 v8 (nI set) (lN v) (nI (rst st p set)) wn m = K v7 v8 (nI (set + 1)) wn m' ∧ RW m' nx' ∧ ∀ h, LL nx' h = LL nx h + v * gN c w P W st p h set := by
  have hr := rst_lt (st := st) (p := p) hset
  have hfac : fac c W p ≤ 12 := by unfold fac; split <;> omega
  rw [f_X0_goOnFrom_109, and1_0, nI_p1]
  by_cases e1 : set % 2 = 0
  · rw [e1, if_pos (show nI 0 = 0 from rfl), inB_t hr (by decide), ck_t, ix_nI (by omega), nI_l (by omega), lN_mul]
    refine ⟨_, _, rfl, RW_lad hr hm, fun h => ?_⟩
    rw [LL_lad hr]
    unfold gN
    rw [if_neg hno, if_pos e1, Nat.mul_assoc]
  · rw [if_neg (by rw [q_0]; exact ine e1 (by omega) (by omega)), inB_t (by omega) (by omega), ck_t, ix_nI (by omega), hct]
    by_cases e2 : c p = 0
    · rw [e2, if_pos (show nI 0 ≤ 0 by decide), f_X0_landByWeights]
      obtain ⟨m', k1, k2⟩ := s_landW_3 (v := v) hP hp hr hw FU 0 m nx (by omega) (FU_ge (by omega)) hm
      have k1' : f_X0_landByWeights_3 (nI p) (nI P) (nI (rst st p set)) (lN v) wt FU (1 : Int32) m = some m' := k1
      rw [k1', bd_s]
      refine ⟨m', _, rfl, k2, fun h => ?_⟩
      rw [LL_ldw hr 10 (Nat.le_refl _)]
      unfold gN
      rw [if_neg hno, if_neg e1, if_pos e2]
    · rw [if_neg (by rw [q_0]; exact inle (by omega) (by omega))]
      obtain ⟨m', k1, k2⟩ := s_land (v := v) hP hp (show 1 ≤ c p by omega) hc10 hr hm
      rw [k1, bd_s]
      refine ⟨m', _, rfl, k2, fun h => ?_⟩
      unfold gN
      rw [if_neg hno, if_neg e1, if_neg e2]
      have h2 : 2 ^ (c p - 1) < 1024 := Nat.lt_of_le_of_lt (Nat.pow_le_pow_right (by decide) (show c p - 1 ≤ 9 by omega)) (by decide)
      by_cases e3 : p + c p < P
      · rw [if_pos e3, if_pos e3, LL_lad (or_1024 hr h2)]
      · rw [if_neg e3, if_neg e3, Nat.mul_zero, Nat.add_zero]
theorem s_goOn_44 {p : Nat} {wt ct : Nat → Int32} (hP : P ≤ 40) (hp : p < P) (hct : ct p = nI (c p)) (hc10 : c p ≤ 10) (hW : W ≤ 12) (hw : ∀ d, 1 ≤ d → d ≤ 10 → wt d = nI (w d) ∧ w d ≤ 9) {nowA : Nat → Int64} {nw nx0 : Nat → Nat} (hnow : ∀ q, q < 1024 → nowA q = lN (nw q) ∧ nw q < 2 ^ 62) (won0 : Nat) : ∀ (n i : Nat) (m : Nat → Int64) (nx : Nat → Nat) (won : Nat), i ≤ 1024 → 1024 - i < n → RW m nx →
    won = won0 + fb_sm (fun s => nw s * gW c W st p s) i → (∀ h, LL nx h = LL nx0 h + fb_sm (fun s => nw s * gN c w P W st p h s) i) →
    ∃ m' nx', f_X0_goOnFrom_44 (nI p) (nI (fac c W p)) (nI P) wt nowA ct n (b01 (abg st p)) (nI (bgn st p)) (nI i) (lN won) m = some (lN (won0 + fb_sm (fun s => nw s * gW c W st p s) 1024), m') ∧ RW m' nx' ∧ ∀ h, LL nx' h = LL nx0 h + fb_sm (fun s => nw s * gN c w P W st p h s) 1024 := by
  have hfac : fac c W p ≤ 12 := by unfold fac; split <;> omega
  intro n
  induction n with
  | zero => intro i m nx won h1 h2; omega
  | succ n ih =>
    intro i m nx won h1 h2 hm hwon hL
    rw [f_X0_goOnFrom_44, q_1024]
    by_cases e : i = 1024
    · subst e
      rw [if_pos (ile (Nat.le_refl _) (by omega)), hwon]
      exact ⟨m, nx, rfl, hm, hL⟩
    · have hi := hnow i (by omega)
      rw [if_neg (inle (by omega) (by omega)), inB_t (by omega) (by omega), ck_t, ix_nI (by omega), hi.1]
      have s1 : ∀ g : Nat → Nat, fb_sm g (i + 1) = fb_sm g i + g i := fun g => fb_sm_succ g i
      by_cases e2 : nw i = 0
      · rw [if_pos ((lgz (by omega)).mpr e2), nI_p1]
        refine ih (i + 1) m nx won (by omega) (by omega) hm ?_ (fun h => ?_)
        · rw [s1, e2, Nat.zero_mul, Nat.add_zero]; exact hwon
        · rw [s1, e2, Nat.zero_mul, Nat.add_zero]; exact hL h
      · rw [if_neg (fun q => e2 ((lgz (by omega)).mp q))]
        have hshr : ((nI i >>> ((1 : Int32) &&& 31)) ||| nI (bgn st p)) = nI (rst st p i) := by
          have := pk_shrN (n := i) (by omega) ((1 : Int32) &&& 31) 1 (by decide)
          rw [this, fa_or]; rfl
        rw [hshr]
        have other : ¬ (i = 1 ∧ abg st p = true) → ∃ m' nx', f_X0_goOnFrom_109 (nI p) (nI (fac c W p)) (nI P) wt ct (f_X0_goOnFrom_44 (nI p) (nI (fac c W p)) (nI P) wt nowA ct n) (b01 (abg st p)) (nI (bgn st p)) (nI i) (lN (nw i)) (nI (rst st p i)) (lN won) m = some (lN (won0 + fb_sm (fun s => nw s * gW c W st p s) 1024), m') ∧ RW m' nx' ∧ ∀ h, LL nx' h = LL nx0 h + fb_sm (fun s => nw s * gN c w P W st p h s) 1024 := by
          intro hno
          obtain ⟨m', nx', k1, k2, k3⟩ := s_goOn_109 (st := st) hP hp hct hc10 hW hw (show i < 1024 by omega) hno (nw i) hm (f_X0_goOnFrom_44 (nI p) (nI (fac c W p)) (nI P) wt nowA ct n) (b01 (abg st p)) (nI (bgn st p)) (lN won)
          rw [k1]
          refine ih (i + 1) m' nx' won (by omega) (by omega) k2 ?_ (fun h => ?_)
          · rw [s1]
            have : gW c W st p i = 0 := by unfold gW; rw [if_neg hno]
            rw [this, Nat.mul_zero, Nat.add_zero]; exact hwon
          · rw [k3 h, hL h, s1, Nat.add_assoc]
        by_cases e3 : i = 1
        · rw [if_pos (by rw [e3]; rfl)]
          cases ha : abg st p with
          | false =>
            rw [ha] at other
            rw [if_pos (show b01 false = 0 by decide)]
            exact other (fun q => by cases q.2)
          | true =>
            rw [if_neg (show ¬ b01 true = 0 by decide), nI_l (by omega), lN_mul, lN_add, nI_p1]
            have ih' := ih (i + 1) m nx (won + nw i * fac c W p) (by omega) (by omega) hm ?_ (fun h => ?_)
            · rw [ha] at ih'; exact ih'
            · rw [s1]
              have : gW c W st p i = fac c W p := by unfold gW; rw [if_pos ⟨e3, ha⟩]
              rw [this, hwon, Nat.add_assoc]
            · rw [s1]
              have : gN c w P W st p h i = 0 := by unfold gN; rw [if_pos ⟨e3, ha⟩]
              rw [this, Nat.mul_zero, Nat.add_zero]; exact hL h
        · rw [if_neg (show ¬ nI i = (1 : Int32) from ine (b := 1) e3 (by omega) (by omega))]
          exact other (fun q => e3 q.1)
end DP
