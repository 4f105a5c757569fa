/-! ===== ways: digits, and folds over them ===== -/
def itr {σ : Type} (f : σ → Nat → σ) : Nat → σ → σ
  | 0, s => s
  | n + 1, s => f (itr f n s) n
theorem itr_add {σ : Type} (f : σ → Nat → σ) (m : Nat) : ∀ (n : Nat) (s : σ), itr f (m + n) s = itr (fun s r => f s (m + r)) n (itr f m s)
  | 0, s => rfl
  | n + 1, s => by rw [← Nat.add_assoc, itr, itr, itr_add f m n s]
theorem itr_mul {σ : Type} (f : σ → Nat → σ) (M : Nat) : ∀ (n : Nat) (s : σ), itr f (n * M) s = itr (fun s d => itr (fun s r => f s (d * M + r)) M s) n s
  | 0, s => by rw [Nat.zero_mul]; rfl
  | n + 1, s => by rw [Nat.succ_mul, itr_add, itr_mul f M n s, itr]
theorem itr_cong {σ : Type} {f g : σ → Nat → σ} : ∀ (n : Nat) (s : σ), (∀ s i, i < n → f s i = g s i) → itr f n s = itr g n s
  | 0, s, _ => rfl
  | n + 1, s, h => by rw [itr, itr, itr_cong n s (fun s i hi => h s i (by omega)), h _ n (by omega)]
def dgt : Nat → Nat → List Nat
  | 0, _ => []
  | k + 1, code => dgt k (code / 10) ++ [code % 10 + 1]
theorem dgt_len : ∀ k code, (dgt k code).length = k
  | 0, _ => rfl
  | k + 1, code => by rw [dgt, List.length_append, dgt_len k, List.length_singleton]
theorem dgt_in : ∀ k code d, d ∈ dgt k code → 1 ≤ d ∧ d ≤ 10
  | 0, _, d, h => by rw [dgt] at h; cases h
  | k + 1, code, d, h => by
    rw [dgt, List.mem_append, List.mem_singleton] at h
    rcases h with h | h
    · exact dgt_in k _ d h
    · omega
theorem dgt_top : ∀ (k d r : Nat), d < 10 → r < 10 ^ k → dgt (k + 1) (d * 10 ^ k + r) = (d + 1) :: dgt k r := by
  intro k
  induction k with
  | zero =>
    intro d r h1 h2
    have : r = 0 := by simpa using h2
    subst this
    simp [dgt, Nat.mod_eq_of_lt h1]
  | succ k ih =>
    intro d r h1 h2
    have e0 : d * 10 ^ (k + 1) = 10 * (d * 10 ^ k) := by rw [Nat.pow_succ, ← Nat.mul_assoc, Nat.mul_comm]
    rw [dgt, e0]
    have e1 : (10 * (d * 10 ^ k) + r) / 10 = d * 10 ^ k + r / 10 := by omega
    have e2 : (10 * (d * 10 ^ k) + r) % 10 = r % 10 := by omega
    rw [e1, e2, ih d (r / 10) h1 (by rw [Nat.pow_succ] at h2; omega)]
    rw [show dgt (k + 1) r = dgt k (r / 10) ++ [r % 10 + 1] from rfl]
    rfl
def prd (w : Nat → Nat) : List Nat → Nat
  | [] => 1
  | d :: l => w d * prd w l
theorem prd_app (w : Nat → Nat) : ∀ (l : List Nat) (d : Nat), prd w (l ++ [d]) = prd w l * w d
  | [], d => by rw [List.nil_append, prd, prd, prd, Nat.mul_one, Nat.one_mul]
  | a :: l, d => by rw [List.cons_append, prd, prd, prd_app w l d, Nat.mul_assoc]
def asg (c : Nat → Nat) : List Nat → List Nat → (Nat → Nat)
  | o :: os, d :: ds => asg (chg c o d) os ds
  | _, _ => c
theorem asg_out : ∀ (zs ds : List Nat) (c : Nat → Nat) (q : Nat), q ∉ zs → asg c zs ds q = c q
  | [], _, _, _, _ => by rw [asg]; intro o os d ds h; cases h
  | o :: os, [], _, _, _ => by rw [asg]; intro o os d ds h1 h2; cases h2
  | o :: os, d :: ds, c, q, h => by
    rw [asg, asg_out os ds _ q (fun h2 => h (List.mem_cons_of_mem _ h2))]
    unfold chg
    rw [if_neg (fun e => h (by rw [e]; exact List.mem_cons_self))]
theorem asg_at : ∀ (zs ds : List Nat) (c : Nat → Nat), zs.Nodup → zs.length = ds.length → ∀ (i o d : Nat), zs[i]? = some o → ds[i]? = some d → asg c zs ds o = d
  | [], _, _, _, _, i, o, d, h, _ => by simp at h
  | _ :: _, [], _, _, h, _, _, _, _, _ => by cases h
  | o :: os, d :: ds, c, hn, hl, 0, o', d', h1, h2 => by
    simp at h1 h2
    subst h1; subst h2
    rw [asg, asg_out os ds _ _ (List.nodup_cons.mp hn).1]
    unfold chg
    rw [if_pos rfl]
  | o :: os, d :: ds, c, hn, hl, i + 1, o', d', h1, h2 => by
    rw [asg]
    exact asg_at os ds _ (List.nodup_cons.mp hn).2 (by simpa using hl) i o' d' (by simpa using h1) (by simpa using h2)
/-- all ways for the open places, the first open place first, its counts in order -/
def nfold {σ : Type} (step : σ → Nat → (Nat → Nat) → σ) (w : Nat → Nat) : List Nat → (Nat → Nat) → Nat → σ → σ
  | [], c, own, s => step s own c
  | o :: os, c, own, s => itr (fun s d => nfold step w os (chg c o (d + 1)) (own * w (d + 1)) s) 10 s
theorem codes_fold {σ : Type} (step : σ → Nat → (Nat → Nat) → σ) (w : Nat → Nat) : ∀ (zs : List Nat) (c : Nat → Nat) (own : Nat) (s : σ),
    itr (fun s code => step s (own * prd w (dgt zs.length code)) (asg c zs (dgt zs.length code))) (10 ^ zs.length) s = nfold step w zs c own s := by
  intro zs
  induction zs with
  | nil =>
    intro c own s
    show step s (own * 1) c = step s own c
    rw [Nat.mul_one]
  | cons o os ih =>
    intro c own s
    rw [List.length_cons, Nat.pow_succ, Nat.mul_comm, itr_mul, nfold]
    apply itr_cong
    intro s d hd
    rw [← ih (chg c o (d + 1)) (own * w (d + 1)) s]
    apply itr_cong
    intro s r hr
    rw [dgt_top _ _ _ hd hr, prd, asg, Nat.mul_assoc]
/-! ===== the reference writes a way in ===== -/
theorem take_succ {α : Type} {l : List α} {j : Nat} {x : α} (h : l[j]? = some x) : l.take (j + 1) = l.take j ++ [x] := by
  rw [List.take_add_one, h]; rfl
theorem s_writeIn_12 {P k : Nat} {zs ds : List Nat} {on wt : Nat → Int32} {w a : Nat → Nat} (hP : P ≤ 40) (hk : zs.length = k) (hk5 : k ≤ 5) (hz : ∀ o ∈ zs, o < P) (hon : ∀ (i o : Nat), zs[i]? = some o → on i = nI o) (hw : ∀ d, 1 ≤ d → d ≤ 10 → wt d = nI (w d) ∧ w d ≤ 9)
    (ha : ∀ (i o d : Nat), zs[i]? = some o → ds[i]? = some d → a o = d) (hds : ds.length = k) : ∀ (n j left all : Nat) (ct : Nat → Int32), j ≤ k → j < n → left < 100000 → all * 9 ^ j ≤ 9 ^ 5 → dgt j left = ds.take j → (∀ q, q < P → q ∉ zs.take j → ct q = nI (a q)) →
    ∃ ct', f_X6_writeIn_12 on wt n (nI left) (nI all) (dn_ j) ct = some (nI (all * prd w (dgt j left)), ct') ∧ AR ct' a P := by
  intro n
  induction n with
  | zero => intro j left all ct h1 h2; omega
  | succ n ih =>
    intro j left all ct h1 h2 h3 h4 h5 h6
    rw [f_X6_writeIn_12]
    by_cases e0 : j = 0
    · subst e0
      refine ⟨ct, by rw [if_pos (show dn_ 0 < 0 by decide)]; rw [dgt, prd, Nat.mul_one], fun q hq => h6 q hq (by simp)⟩
    · obtain ⟨i, rfl⟩ : ∃ i, j = i + 1 := ⟨j - 1, by omega⟩
      have hi : i < zs.length := by omega
      have hid : i < ds.length := by omega
      have e1 : zs[i]? = some zs[i] := List.getElem?_eq_getElem hi
      have e2 : ds[i]? = some ds[i] := List.getElem?_eq_getElem hid
      have hzi := hz zs[i] (List.getElem_mem hi)
      have hdig : left % 10 + 1 = ds[i] ∧ dgt i (left / 10) = ds.take i := by
        rw [dgt, take_succ e2] at h5
        have := List.append_inj' h5 rfl
        exact ⟨by simpa using this.2, this.1⟩
      have hwd := hw (left % 10 + 1) (by omega) (by omega)
      have hdn : dn_ (i + 1) = nI i := by unfold dn_; rw [if_neg (by omega)]; rfl
      have hdn2 : nI i + (-1 : Int32) = dn_ i := by
        have := dn_m1 (j := i + 1) (by omega); rw [Nat.add_sub_cancel] at this; exact this
      have hall : all * w (left % 10 + 1) ≤ 9 ^ 5 := by
        have h9 : all * w (left % 10 + 1) ≤ all * 9 := Nat.mul_le_mul_left _ hwd.2
        have h10 : all * 9 ≤ all * 9 ^ (i + 1) := Nat.mul_le_mul_left _ (by have h11 := Nat.pow_le_pow_right (n := 9) (by decide) (show 1 ≤ i + 1 by omega); rw [Nat.pow_one] at h11; exact h11)
        omega
      have hall2 : all * w (left % 10 + 1) * 9 ^ i ≤ 9 ^ 5 := by
        refine Nat.le_trans ?_ h4
        rw [Nat.pow_succ, Nat.mul_assoc, Nat.mul_comm (9 ^ i) 9]
        exact Nat.mul_le_mul_left _ (Nat.mul_le_mul_right _ hwd.2)
      rw [hdn, if_neg (nI_pos (by omega)), inB_t (by omega) (by omega), ck_t, ix_nI (by omega), hon i _ e1, inB_t (by omega) (by omega), ck_t, q_10, pk_rem (by omega) (by decide) (by decide), nI_p1, inB_t (by omega) (by omega), ck_t, ix_nI (show left % 10 + 1 < 2 ^ 31 by omega), ix_nI (show zs[i] < 2 ^ 31 by omega), hwd.1, pk_div (by omega) (by decide) (by decide), pk_mul, hdn2]
      obtain ⟨ct', k1, k2⟩ := ih i (left / 10) (all * w (left % 10 + 1)) (upd ct zs[i] (nI (left % 10 + 1))) (by omega) (by omega) (by omega) hall2 hdig.2 (fun q hq hqz => by
        rw [upd_at]
        by_cases e : q = zs[i]
        · rw [if_pos e, e, ha i _ _ e1 e2, hdig.1]
        · rw [if_neg e]
          refine h6 q hq (fun h7 => ?_)
          rw [take_succ e1, List.mem_append, List.mem_singleton] at h7
          rcases h7 with h7 | h7
          · exact hqz h7
          · exact e h7)
      refine ⟨ct', ?_, k2⟩
      rw [k1, dgt, prd_app, Nat.mul_assoc, Nat.mul_comm (prd w (dgt i (left / 10)))]
theorem s_writeIn {P k : Nat} {zs : List Nat} {on wt ct : Nat → Int32} {w c : Nat → Nat} (hP : P ≤ 40) (hk : zs.length = k) (hk5 : k ≤ 5) (hz : ∀ o ∈ zs, o < P) (hnd : zs.Nodup) (hon : ∀ (i o : Nat), zs[i]? = some o → on i = nI o) (hw : ∀ d, 1 ≤ d → d ≤ 10 → wt d = nI (w d) ∧ w d ≤ 9)
    {code : Nat} (hcode : code < 100000) (hct : ∀ q, q < P → q ∉ zs → ct q = nI (c q)) :
    ∃ ct', f_X6_writeIn (nI code) (nI k) ct on wt = some (nI (prd w (dgt k code)), ct') ∧ AR ct' (asg c zs (dgt k code)) P := by
  have hdn : nI k - (1 : Int32) = dn_ k := by
    unfold dn_
    by_cases e : k = 0
    · subst e; rfl
    · rw [if_neg e, nI_m1 (by omega)]
  have h9 : 1 * 9 ^ k ≤ 9 ^ 5 := by rw [Nat.one_mul]; exact Nat.pow_le_pow_right (by decide) hk5
  obtain ⟨ct', h1, h2⟩ := s_writeIn_12 (a := asg c zs (dgt k code)) hP hk hk5 hz hon hw (fun i o d e1 e2 => asg_at zs _ c hnd (by rw [hk, dgt_len]) i o d e1 e2) (dgt_len k code) FU k code 1 ct (Nat.le_refl _) (FU_ge (by omega)) hcode h9 (by rw [List.take_of_length_le (by rw [dgt_len]; exact Nat.le_refl _)]) (fun q hq hqz => by
    rw [List.take_of_length_le (by omega)] at hqz
    rw [asg_out zs _ c q hqz]; exact hct q hq hqz)
  rw [Nat.one_mul] at h1
  exact ⟨ct', by rw [f_X6_writeIn, hdn]; exact h1, h2⟩
theorem s_codes_4 {k : Nat} (hk : k ≤ 5) : ∀ (n i : Nat), i ≤ k → k - i < n → f_X6_codes_4 (nI k) n (nI (10 ^ i)) (nI i) = some (nI (10 ^ k)) := by
  intro n
  induction n with
  | zero => intro i h1 h2; omega
  | succ n ih =>
    intro i h1 h2
    rw [f_X6_codes_4]
    by_cases e : i = k
    · subst e; rw [if_pos (ile (Nat.le_refl _) (by omega))]
    · rw [if_neg (inle (by omega) (by omega)), q_10, pk_mul, nI_p1, ← Nat.pow_succ]
      exact ih (i + 1) (by omega) (by omega)
theorem s_codes {k : Nat} (hk : k ≤ 5) : f_X6_codes (nI k) = some (nI (10 ^ k)) := s_codes_4 hk FU 0 (Nat.zero_le _) (FU_ge (by omega))
/-! ===== fractions in lowest terms ===== -/
theorem lgz {b : Nat} (hb : b < 2 ^ 63) : (lg_cmp (lN b) (0 : Int64) = 0) ↔ b = 0 := by
  rw [lg_eq, show (0 : Int64) = lN 0 from rfl, pk_lEQ hb (by decide)]
theorem half_rem {b r : Nat} (hr : 0 < r) (hrb : r < b) : 2 * (b % r) < b := by
  have h1 := Nat.mod_lt b hr
  have h2 := Nat.div_add_mod b r
  have h3 : 1 ≤ b / r := Nat.div_pos (by omega) hr
  have h4 : r * 1 ≤ r * (b / r) := Nat.mul_le_mul_left _ h3
  omega
theorem s_low_9 (p1 p2 : Int64) (p3 : Int32) : ∀ (m n a b i : Nat), b < 2 ^ m → a < 2 ^ 62 → m ≤ 40 → i + 2 * m + 1 ≤ 100 → 2 * m + 1 ≤ n → f_X5_lowestTerms_9 p1 p2 p3 n (lN a) (lN b) (nI i) = f_X5_lowestTerms_44 p1 p2 p3 (lN (Nat.gcd a b)) := by
  intro m
  induction m with
  | zero =>
    intro n a b i hb ha hm hi hn
    obtain ⟨n', rfl⟩ : ∃ n', n = n' + 1 := ⟨n - 1, by omega⟩
    have : b = 0 := by simpa using hb
    subst this
    rw [f_X5_lowestTerms_9, q_100, if_neg (inle (by omega) (by omega)), if_pos ((lgz (by decide)).mpr rfl), Nat.gcd_zero_right]
  | succ m ih =>
    intro n a b i hb ha hm hi hn
    have hm62 : 2 ^ (m + 1) ≤ 2 ^ 62 := Nat.pow_le_pow_right (by decide) (by omega)
    obtain ⟨n', rfl⟩ : ∃ n', n = n' + 1 := ⟨n - 1, by omega⟩
    rw [f_X5_lowestTerms_9, q_100, if_neg (inle (by omega) (by omega))]
    by_cases e : b = 0
    · subst e; rw [if_pos ((lgz (by decide)).mpr rfl), Nat.gcd_zero_right]
    · have hlb := Nat.mod_lt a (show 0 < b by omega)
      rw [if_neg (fun q => e ((lgz (by omega)).mp q)), decide_eq_true (show ¬ lN b = 0 from fun q => e ((lgz (by omega)).mp (lg_eq.mpr q))), ck_t, pk_lRem (by omega) (by omega) (by omega), nI_p1]
      obtain ⟨n2, rfl⟩ : ∃ n2, n' = n2 + 1 := ⟨n' - 1, by omega⟩
      rw [f_X5_lowestTerms_9, q_100, if_neg (inle (by omega) (by omega))]
      by_cases e2 : a % b = 0
      · rw [if_pos ((lgz (by omega)).mpr e2)]
        congr 2
        rw [Nat.gcd_comm, Nat.gcd_rec, e2, Nat.gcd_zero_left]
      · rw [if_neg (fun q => e2 ((lgz (by omega)).mp q)), decide_eq_true (show ¬ lN (a % b) = 0 from fun q => e2 ((lgz (by omega)).mp (lg_eq.mpr q))), ck_t, pk_lRem (by omega) (by omega) (by omega), nI_p1]
        have hh := half_rem (show 0 < a % b by omega) hlb
        have hp : 2 ^ (m + 1) = 2 * 2 ^ m := by rw [Nat.pow_succ, Nat.mul_comm]
        rw [ih n2 (a % b) (b % (a % b)) (i + 1 + 1) (by omega) (by omega) (by omega) (by omega) (by omega)]
        congr 2
        rw [Nat.gcd_comm, ← Nat.gcd_rec, Nat.gcd_comm (a % b), Nat.gcd_comm a b, Nat.gcd_rec b a, Nat.gcd_comm]
theorem s_term_6 (p1 p2 : Int64) (p3 : Int32) : ∀ (m n a b : Nat), b < 2 ^ m → a < 2 ^ 62 → m ≤ 40 → 0 < a + b → 2 * m + 1 ≤ n → f_X6_term_6 p1 p2 p3 n (lN a) (lN b) = if p3 = 0 then some (p1 / lN (Nat.gcd a b)) else some (p2 / lN (Nat.gcd a b)) := by
  intro m
  induction m with
  | zero =>
    intro n a b hb ha hm hab hn
    obtain ⟨n', rfl⟩ : ∃ n', n = n' + 1 := ⟨n - 1, by omega⟩
    have : b = 0 := by simpa using hb
    subst this
    rw [f_X6_term_6, if_pos ((lgz (by decide)).mpr rfl), decide_eq_true (show ¬ lN a = 0 from fun q => by have := (lgz (show a < 2 ^ 63 by omega)).mp (lg_eq.mpr q); omega), ck_t, ck_t, Nat.gcd_zero_right]
  | succ m ih =>
    intro n a b hb ha hm hab hn
    have hm62 : 2 ^ (m + 1) ≤ 2 ^ 62 := Nat.pow_le_pow_right (by decide) (by omega)
    obtain ⟨n', rfl⟩ : ∃ n', n = n' + 1 := ⟨n - 1, by omega⟩
    rw [f_X6_term_6]
    by_cases e : b = 0
    · subst e
      rw [if_pos ((lgz (by decide)).mpr rfl), decide_eq_true (show ¬ lN a = 0 from fun q => by have := (lgz (show a < 2 ^ 63 by omega)).mp (lg_eq.mpr q); omega), ck_t, ck_t, Nat.gcd_zero_right]
    · have hlb := Nat.mod_lt a (show 0 < b by omega)
      rw [if_neg (fun q => e ((lgz (by omega)).mp q)), decide_eq_true (show ¬ lN b = 0 from fun q => e ((lgz (by omega)).mp (lg_eq.mpr q))), ck_t, pk_lRem (by omega) (by omega) (by omega)]
      obtain ⟨n2, rfl⟩ : ∃ n2, n' = n2 + 1 := ⟨n' - 1, by omega⟩
      rw [f_X6_term_6]
      by_cases e2 : a % b = 0
      · have hg : Nat.gcd a b = b := by rw [Nat.gcd_comm, Nat.gcd_rec, e2, Nat.gcd_zero_left]
        rw [if_pos ((lgz (by omega)).mpr e2), decide_eq_true (show ¬ lN b = 0 from fun q => e ((lgz (by omega)).mp (lg_eq.mpr q))), ck_t, ck_t, hg]
      · rw [if_neg (fun q => e2 ((lgz (by omega)).mp q)), decide_eq_true (show ¬ lN (a % b) = 0 from fun q => e2 ((lgz (by omega)).mp (lg_eq.mpr q))), ck_t, pk_lRem (by omega) (by omega) (by omega)]
        have hh := half_rem (show 0 < a % b by omega) hlb
        have hp : 2 ^ (m + 1) = 2 * 2 ^ m := by rw [Nat.pow_succ, Nat.mul_comm]
        have hg : Nat.gcd (a % b) (b % (a % b)) = Nat.gcd a b := by
          rw [Nat.gcd_comm, ← Nat.gcd_rec, Nat.gcd_comm (a % b), Nat.gcd_comm a b, Nat.gcd_rec b a, Nat.gcd_comm]
        rw [ih n2 (a % b) (b % (a % b)) (by omega) (by omega) (by omega) (by omega) (by omega), hg]
/-- both tell the same fraction -/
theorem s_frac {up low : Nat} (hup : up < 2 ^ 18) (hlow : low < 2 ^ 18) (h0 : 0 < low) (p3 : Int32) : ∃ r, f_X5_lowestTerms (lN up) (lN low) p3 = some r ∧ f_X6_term (lN up) (lN low) p3 = some r := by
  have hg : 0 < Nat.gcd low up := Nat.gcd_pos_of_pos_left _ h0
  have hg2 : Nat.gcd low up < 2 ^ 62 := Nat.lt_of_le_of_lt (Nat.gcd_le_left _ h0) (by omega)
  rw [f_X5_lowestTerms, f_X6_term]
  have a5 := s_low_9 (lN up) (lN low) p3 18 FU low up 0 hup (by omega) (by omega) (by omega) (Nat.le_of_lt (FU_ge (by omega)))
  have b5 : f_X5_lowestTerms_9 (lN up) (lN low) p3 FU (lN low) (lN up) (0 : Int32) = _ := a5
  rw [b5, s_term_6 (lN up) (lN low) p3 18 FU up low hlow (by omega) (by omega) (by omega) (Nat.le_of_lt (FU_ge (by omega))), Nat.gcd_comm up low, f_X5_lowestTerms_44]
  have hne : ¬ (lg_cmp (lN (Nat.gcd low up)) (0 : Int64)) = 0 := fun q => by have := (lgz (show Nat.gcd low up < 2 ^ 63 by omega)).mp q; omega
  have hd := decide_eq_true (show ¬ lN (Nat.gcd low up) = 0 from fun q => hne (lg_eq.mpr q))
  by_cases e : p3 = 0
  · rw [if_pos e, if_pos e, if_neg hne, hd, ck_t]; exact ⟨_, rfl, rfl⟩
  · rw [if_neg e, if_neg e, if_neg hne, hd, ck_t]; exact ⟨_, rfl, rfl⟩
