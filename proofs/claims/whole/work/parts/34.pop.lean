/-! ===== bitCount, byte by byte ===== -/
def mk_ (b : Nat) : Nat → Nat
  | 0 => 0
  | n + 1 => b + 256 * mk_ b n
def bm (f : Nat → Nat) : Nat → Nat → Nat
  | 0, _ => 0
  | n + 1, x => f (x % 256) + 256 * bm f n (x / 256)
theorem and_256 (u v : Nat) : u &&& v = (u % 256 &&& v % 256) + 256 * (u / 256 &&& v / 256) := by
  have h1 : (u &&& v) % 256 = u % 256 &&& v % 256 := Nat.and_mod_two_pow (n := 8)
  have h2 : (u &&& v) / 256 = u / 256 &&& v / 256 := Nat.and_div_two_pow (n := 8)
  rw [← h1, ← h2]
  omega
theorem mk_mod (b n : Nat) (hb : b < 256) : mk_ b (n + 1) % 256 = b ∧ mk_ b (n + 1) / 256 = mk_ b n := by
  rw [mk_]; omega
def e1_ (a : Nat) : Nat := a - (a / 2 &&& 85)
def e2_ (a : Nat) : Nat := (a &&& 51) + (a / 4 &&& 51)
def e3_ (a : Nat) : Nat := (a + a / 16) &&& 15
theorem d1_ : ∀ t, t < 128 → ∀ b, b < 2 → (t + 128 * b) &&& 85 = t &&& 85 := by decide
theorem d2_ : ∀ t, t < 64 → ∀ b, b < 4 → (t + 64 * b) &&& 51 = t &&& 51 := by decide
theorem d3_ : ∀ a, a < 256 → e1_ a < 256 ∧ (a / 2 &&& 85) ≤ a ∧ e2_ (e1_ a) < 256 ∧ e2_ (e1_ a) % 16 ≤ 4 ∧ e2_ (e1_ a) / 16 ≤ 4 ∧ e3_ (e2_ (e1_ a)) = fb_ct (fun i => a.testBit i) 8 ∧ e3_ (e2_ (e1_ a)) ≤ 8 := by decide +kernel
theorem s1_bm : ∀ (n x : Nat), x < 256 ^ n → (x / 2 &&& mk_ 85 n) ≤ x ∧ x - (x / 2 &&& mk_ 85 n) = bm e1_ n x := by
  intro n
  induction n with
  | zero => intro x hx; rw [mk_, bm, Nat.and_zero]; omega
  | succ n ih =>
    intro x hx
    have hq : x / 256 < 256 ^ n := by rw [Nat.pow_succ] at hx; omega
    obtain ⟨i1, i2⟩ := ih (x / 256) hq
    have ha : x % 256 < 256 := Nat.mod_lt _ (by decide)
    have hd := d3_ (x % 256) ha
    obtain ⟨m1, m2⟩ := mk_mod 85 n (by decide)
    have e : x / 2 &&& mk_ 85 (n + 1) = (x % 256 / 2 &&& 85) + 256 * (x / 256 / 2 &&& mk_ 85 n) := by
      rw [and_256, m1, m2]
      have h1 : x / 2 % 256 = x % 256 / 2 + 128 * (x / 256 % 2) := by omega
      have h2 : x / 2 / 256 = x / 256 / 2 := by omega
      rw [h1, h2, d1_ _ (by omega) _ (by omega)]
    rw [e, bm, ← i2]
    unfold e1_
    omega
theorem s2_bm : ∀ (n y : Nat), (y &&& mk_ 51 n) + (y / 4 &&& mk_ 51 n) = bm e2_ n y := by
  intro n
  induction n with
  | zero => intro x; rw [mk_, bm, Nat.and_zero, Nat.and_zero]
  | succ n ih =>
    intro x
    have i2 := ih (x / 256)
    obtain ⟨m1, m2⟩ := mk_mod 51 n (by decide)
    have e : x / 4 &&& mk_ 51 (n + 1) = (x % 256 / 4 &&& 51) + 256 * (x / 256 / 4 &&& mk_ 51 n) := by
      rw [and_256, m1, m2]
      have h1 : x / 4 % 256 = x % 256 / 4 + 64 * (x / 256 % 4) := by omega
      have h2 : x / 4 / 256 = x / 256 / 4 := by omega
      rw [h1, h2, d2_ _ (by omega) _ (by omega)]
    have e' : x &&& mk_ 51 (n + 1) = (x % 256 &&& 51) + 256 * (x / 256 &&& mk_ 51 n) := by
      rw [and_256, m1, m2]
    rw [e, e', bm, ← i2]
    unfold e2_
    omega
def nib (n x : Nat) : Prop := ∀ j, j < n → x / 256 ^ j % 256 % 16 ≤ 4 ∧ x / 256 ^ j % 256 / 16 ≤ 4
theorem and15 : ∀ t, t &&& 15 = t % 16 := fun t => Nat.and_two_pow_sub_one_eq_mod t 4
theorem s3_bm : ∀ (n z : Nat), nib (n + 1) z → z < 256 ^ (n + 1) → (z + z / 16) &&& mk_ 15 (n + 1) = bm e3_ (n + 1) z := by
  intro n
  induction n with
  | zero =>
    intro z hz hz2
    have h0 := hz 0 (by omega)
    rw [Nat.pow_zero, Nat.div_one] at h0
    rw [bm, bm, mk_, mk_]
    unfold e3_
    have : z % 256 = z := Nat.mod_eq_of_lt (by omega)
    rw [this]
    rfl
  | succ n ih =>
    intro z hz hz2
    have hq : nib (n + 1) (z / 256) := fun j hj => by
      have := hz (j + 1) (by omega)
      rw [Nat.pow_succ, Nat.mul_comm, ← Nat.div_div_eq_div_mul] at this
      exact this
    have hq2 : z / 256 < 256 ^ (n + 1) := by rw [Nat.pow_succ] at hz2; omega
    have i2 := ih (z / 256) hq hq2
    have h0 := hz 0 (by omega)
    have h1 := hz 1 (by omega)
    rw [Nat.pow_zero, Nat.div_one] at h0
    rw [Nat.pow_one] at h1
    obtain ⟨m1, m2⟩ := mk_mod 15 (n + 1) (by decide)
    rw [and_256, m1, m2, bm, ← i2]
    have k1 : z / 16 = z % 256 / 16 + 16 * (z / 256 % 16) + 256 * (z / 256 / 16) := by omega
    have k2 : z / 256 % 16 ≤ 4 := by omega
    have k3 : z = z % 256 + 256 * (z / 256) := by omega
    have k4 : z % 256 ≤ 68 := by omega
    have g1 : (z + z / 16) / 256 = z / 256 + z / 256 / 16 := by
      generalize z % 256 = a at *
      generalize z / 256 = q at *
      generalize q / 16 = q2 at *
      generalize z / 16 = w at *
      omega
    rw [g1]
    have g2 : ((z + z / 16) % 256 &&& 15) = e3_ (z % 256) := by
      unfold e3_
      rw [and15, and15]
      omega
    rw [g2]
theorem bm_mod (f : Nat → Nat) (hf : ∀ a, a < 256 → f a < 256) (n x : Nat) : bm f (n + 1) x % 256 = f (x % 256) ∧ bm f (n + 1) x / 256 = bm f n (x / 256) := by
  have := hf (x % 256) (Nat.mod_lt _ (by decide))
  rw [bm]; omega
theorem bm_comp (f g : Nat → Nat) (hf : ∀ a, a < 256 → f a < 256) : ∀ (n x : Nat), bm g n (bm f n x) = bm (fun a => g (f a)) n x := by
  intro n
  induction n with
  | zero => intro x; rfl
  | succ n ih =>
    intro x
    obtain ⟨h1, h2⟩ := bm_mod f hf n x
    rw [bm, h1, h2, ih, bm]
theorem bm_lt (f : Nat → Nat) (hf : ∀ a, a < 256 → f a < 256) : ∀ (n x : Nat), bm f n x < 256 ^ n := by
  intro n
  induction n with
  | zero => intro x; rw [bm]; decide
  | succ n ih =>
    intro x
    have h1 := hf (x % 256) (Nat.mod_lt _ (by decide))
    have h2 := ih (x / 256)
    rw [bm, Nat.pow_succ]; omega
theorem bm_dig (f : Nat → Nat) (hf : ∀ a, a < 256 → f a < 256) : ∀ (j n x : Nat), j < n → bm f n x / 256 ^ j % 256 = f (x / 256 ^ j % 256) := by
  intro j
  induction j with
  | zero =>
    intro n x h
    obtain ⟨k, rfl⟩ : ∃ k, n = k + 1 := ⟨n - 1, by omega⟩
    rw [Nat.pow_zero, Nat.div_one, Nat.div_one]
    exact (bm_mod f hf k x).1
  | succ j ih =>
    intro n x h
    obtain ⟨k, rfl⟩ : ∃ k, n = k + 1 := ⟨n - 1, by omega⟩
    rw [Nat.pow_succ, Nat.mul_comm, ← Nat.div_div_eq_div_mul, ← Nat.div_div_eq_div_mul, (bm_mod f hf k x).2]
    exact ih k (x / 256) (by omega)
/-- how many bits are set below n -/
def pct (x n : Nat) : Nat := fb_ct (fun i => x.testBit i) n
theorem pct_8 (x m : Nat) : pct x (8 + m) = pct (x % 256) 8 + pct (x / 256) m := by
  unfold pct
  rw [fb_ct_split]
  congr 1
  · apply fb_ct_cong
    intro k hk
    rw [show (256 : Nat) = 2 ^ 8 from rfl, Nat.testBit_mod_two_pow, decide_eq_true hk, Bool.true_and]
  · apply fb_ct_cong
    intro k hk
    rw [show (256 : Nat) = 2 ^ 8 from rfl, Nat.testBit_div_two_pow, Nat.add_comm]
def pcb (a : Nat) : Nat := e3_ (e2_ (e1_ a))
theorem pcb_pct {a : Nat} (h : a < 256) : pcb a = pct a 8 ∧ pcb a ≤ 8 := ⟨(d3_ a h).2.2.2.2.2.1, (d3_ a h).2.2.2.2.2.2⟩
theorem bm_e12 {x : Nat} : bm e2_ 8 (bm e1_ 8 x) = bm (fun a => e2_ (e1_ a)) 8 x := bm_comp _ _ (fun a h => (d3_ a h).1) 8 x
