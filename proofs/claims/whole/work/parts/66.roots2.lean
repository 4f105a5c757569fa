/-! ===== fits and drawn: roots, and the ways that keep the needs ===== -/
section RT
variable {c0 : Nat → Nat} {P : Nat}
/-- where one comes out from a place, or 40 and the number of the first open place that one comes to -/
def rtf (c0 : Nat → Nat) (P : Nat) : Nat → Nat → Nat
  | 0, q => q
  | n + 1, q => if c0 q = 0 then 40 + (zl c0 q).length else if q + c0 q < P then rtf c0 P n (q + c0 q) else q
def rt (c0 : Nat → Nat) (P q : Nat) : Nat := rtf c0 P P q
def rby (c0 : Nat → Nat) (P q d : Nat) : Nat := if q + d < P then rt c0 P (q + d) else q
theorem rtf_st : ∀ (n m q : Nat), q < P → P - q ≤ n → P - q ≤ m → rtf c0 P n q = rtf c0 P m q := by
  intro n
  induction n with
  | zero => intro m q h1 h2; omega
  | succ n ih =>
    intro m q h1 h2 h3
    obtain ⟨k, rfl⟩ : ∃ k, m = k + 1 := ⟨m - 1, by omega⟩
    rw [rtf, rtf]
    by_cases e : c0 q = 0
    · rw [if_pos e, if_pos e]
    · rw [if_neg e, if_neg e]
      by_cases h : q + c0 q < P
      · rw [if_pos h, if_pos h]
        exact ih k (q + c0 q) h (by omega) (by omega)
      · rw [if_neg h, if_neg h]
theorem rt_eq {q : Nat} (hq : q < P) : rt c0 P q = if c0 q = 0 then 40 + (zl c0 q).length else rby c0 P q (c0 q) := by
  unfold rby rt
  obtain ⟨k, hk⟩ : ∃ k, P = k + 1 := ⟨P - 1, by omega⟩
  have h1 : rtf c0 P P q = rtf c0 P (k + 1) q := by rw [← hk]
  rw [h1, rtf]
  by_cases e : c0 q = 0
  · rw [if_pos e, if_pos e]
  · rw [if_neg e, if_neg e]
    by_cases h : q + c0 q < P
    · rw [if_pos h, if_pos h]
      exact rtf_st _ _ _ h (by omega) (by omega)
    · rw [if_neg h, if_neg h]
theorem rt_cases : ∀ q, q < P → rt c0 P q < P ∨ ∃ o, q ≤ o ∧ o < P ∧ c0 o = 0 ∧ rt c0 P q = 40 + (zl c0 o).length := by
  apply down
  intro q hq ih
  rw [rt_eq hq]
  by_cases e : c0 q = 0
  · rw [if_pos e]; exact Or.inr ⟨q, Nat.le_refl _, hq, e, rfl⟩
  · rw [if_neg e]
    unfold rby
    by_cases h : q + c0 q < P
    · rw [if_pos h]
      rcases ih (q + c0 q) (by omega) h with h1 | ⟨o, h1, h2, h3, h4⟩
      · exact Or.inl h1
      · exact Or.inr ⟨o, by omega, h2, h3, h4⟩
    · rw [if_neg h]; exact Or.inl hq
theorem rby_cases {q d : Nat} (hq : q < P) (hd : 1 ≤ d) : rby c0 P q d < P ∨ ∃ o, q < o ∧ o < P ∧ c0 o = 0 ∧ rby c0 P q d = 40 + (zl c0 o).length := by
  unfold rby
  by_cases h : q + d < P
  · rw [if_pos h]
    rcases rt_cases (c0 := c0) (q + d) h with h1 | ⟨o, h1, h2, h3, h4⟩
    · exact Or.inl h1
    · exact Or.inr ⟨o, by omega, h2, h3, h4⟩
  · rw [if_neg h]; exact Or.inl hq
/-- a full way over the row -/
def fw (c0 : Nat → Nat) (P : Nat) (x : Nat → Nat) : Prop := okc x P ∧ ∀ q, q < P → c0 q ≠ 0 → x q = c0 q
theorem zl_lt {o o2 : Nat} (h : c0 o = 0) (h2 : o < o2) : (zl c0 o).length < (zl c0 o2).length := by
  have h3 := fb_ct_mono (fun j => decide (c0 j = 0)) (show o + 1 ≤ o2 by omega)
  rw [← zl_len, ← zl_len, len_next h] at h3
  omega
theorem zl_inj {o o2 : Nat} (h : c0 o = 0) (h2 : c0 o2 = 0) (e : (zl c0 o).length = (zl c0 o2).length) : o = o2 := by
  rcases Nat.lt_trichotomy o o2 with g | g | g
  · have := zl_lt h g; omega
  · exact g
  · have := zl_lt h2 g; omega
theorem rt_ou {x : Nat → Nat} (hx : fw c0 P x) (hP : P ≤ 40) : ∀ q, q < P → (rt c0 P q < P → ou x P q = rt c0 P q) ∧ ∀ o, o < P → c0 o = 0 → rt c0 P q = 40 + (zl c0 o).length → ou x P q = ou x P o := by
  apply down
  intro q hq ih
  rw [rt_eq hq]
  by_cases e : c0 q = 0
  · rw [if_pos e]
    exact ⟨fun h => by omega, fun o ho h0 he => by rw [zl_inj e h0 (by omega)]⟩
  · rw [if_neg e]
    have hxq := hx.2 q hq e
    rw [ou_eq hx.1 hq, hxq]
    unfold rby
    by_cases h : q + c0 q < P
    · rw [if_pos h, if_pos h]
      exact ih (q + c0 q) (by omega) h
    · rw [if_neg h, if_neg h]
      exact ⟨fun _ => rfl, fun o ho h0 he => by omega⟩
theorem rby_ou {x : Nat → Nat} (hx : fw c0 P x) (hP : P ≤ 40) {q d : Nat} (hq : q < P) (hd : x q = d) : (rby c0 P q d < P → ou x P q = rby c0 P q d) ∧ ∀ o, o < P → c0 o = 0 → rby c0 P q d = 40 + (zl c0 o).length → ou x P q = ou x P o := by
  rw [ou_eq hx.1 hq, hd]
  unfold rby
  by_cases h : q + d < P
  · rw [if_pos h, if_pos h]
    exact rt_ou hx hP (q + d) h
  · rw [if_neg h, if_neg h]
    exact ⟨fun _ => rfl, fun o ho h0 he => by omega⟩
/-- the open place of a number -/
def sp (c0 : Nat → Nat) (P k : Nat) : Nat := (zl c0 P).getD k 0
theorem sp_at {o : Nat} (h : c0 o = 0) : ∀ n, (zl c0 (o + 1 + n))[(zl c0 o).length]? = some o
  | 0 => by
    rw [Nat.add_zero, zl_succ, if_pos h, List.getElem?_append_right (Nat.le_refl _), Nat.sub_self]; rfl
  | n + 1 => by
    have h1 : (zl c0 o).length < (zl c0 (o + 1 + n)).length := zl_lt h (by omega)
    rw [← Nat.add_assoc, zl_succ, List.getElem?_append_left h1]
    exact sp_at h n
theorem sp_of {o : Nat} (ho : o < P) (h : c0 o = 0) : sp c0 P (zl c0 o).length = o ∧ (zl c0 o).length < (zl c0 P).length := by
  have h1 := sp_at h (P - (o + 1))
  rw [show o + 1 + (P - (o + 1)) = P by omega] at h1
  refine ⟨?_, zl_lt h ho⟩
  unfold sp
  rw [List.getD_eq_getElem?_getD, h1]; rfl
theorem sp_in {k : Nat} (hk : k < (zl c0 P).length) : sp c0 P k < P ∧ c0 (sp c0 P k) = 0 ∧ (zl c0 (sp c0 P k)).length = k := by
  rw [zl_len] at hk
  obtain ⟨o, h1, h2, h3⟩ := fb_ct_kth hk
  have h4 := of_decide_eq_true h2
  rw [← zl_len] at h3
  have h5 := (sp_of h1 h4).1
  rw [h3] at h5
  rw [h5]
  exact ⟨h1, h4, h3⟩
theorem sp_get {k : Nat} (hk : k < (zl c0 P).length) : (zl c0 P)[k]? = some (sp c0 P k) := by
  unfold sp
  rw [List.getD_eq_getElem?_getD, List.getElem?_eq_getElem hk]; rfl
theorem drop_sp {k : Nat} (hk : k < (zl c0 P).length) : (zl c0 P).drop k = sp c0 P k :: (zl c0 P).drop (k + 1) := by
  have h := sp_get hk
  rw [List.getElem?_eq_getElem hk] at h
  rw [List.drop_eq_getElem_cons hk]
  congr 1
  exact Option.some.inj h
theorem rt_lt {q : Nat} (hq : q < P) (hP : P ≤ 40) (hz : (zl c0 P).length ≤ 5) : rt c0 P q < 45 := by
  rcases rt_cases (c0 := c0) q hq with h | ⟨o, _, h2, h3, h4⟩
  · omega
  · have := (sp_of h2 h3).2; omega
theorem rby_lt {q d : Nat} (hq : q < P) (hP : P ≤ 40) (hz : (zl c0 P).length ≤ 5) : rby c0 P q d < 45 := by
  unfold rby
  by_cases h : q + d < P
  · rw [if_pos h]; exact rt_lt h hP hz
  · rw [if_neg h]; omega
/-! ===== sums over ways with weights by the open place's number ===== -/
def nsu (φ : (Nat → Nat) → Bool) (u : Nat → Nat → Nat) : List Nat → Nat → (Nat → Nat) → Nat
  | [], _, c => if φ c = true then 1 else 0
  | o :: os, j, c => fb_sm (fun d => u j (d + 1) * nsu φ u os (j + 1) (chg c o (d + 1))) 10
theorem chg_pre {zs : List Nat} {o d : Nat} {c : Nat → Nat} (hd1 : 1 ≤ d) (hd : d ≤ 10) (h : ∀ q, q < P → q ∉ o :: zs → 1 ≤ c q ∧ c q ≤ 10) : ∀ q, q < P → q ∉ zs → 1 ≤ chg c o d q ∧ chg c o d q ≤ 10 := by
  intro q hq hqn
  unfold chg
  by_cases e : q = o
  · rw [if_pos e]; omega
  · rw [if_neg e]
    exact h q hq (fun h2 => by
      rcases List.mem_cons.mp h2 with h3 | h3
      · exact e h3
      · exact hqn h3)
theorem nsu_ext {u : Nat → Nat → Nat} {φ ψ : (Nat → Nat) → Bool} {Q : (Nat → Nat) → Prop} : ∀ (zs : List Nat) (j : Nat) (c : Nat → Nat), (∀ q, q < P → q ∉ zs → 1 ≤ c q ∧ c q ≤ 10) → (∀ x o d, Q x → o ∈ zs → Q (chg x o d)) → Q c → (∀ x, okc x P → Q x → φ x = ψ x) → nsu φ u zs j c = nsu ψ u zs j c := by
  intro zs
  induction zs with
  | nil => intro j c h1 h2 h3 h4; rw [nsu, nsu, h4 c (fun q hq => h1 q hq (by simp)) h3]
  | cons o os ih =>
    intro j c h1 h2 h3 h4
    rw [nsu, nsu]
    apply fb_sm_cong
    intro d hd
    rw [ih (j + 1) _ (chg_pre (by omega) (by omega) h1) (fun x o' d' hx ho => h2 x o' d' hx (List.mem_cons_of_mem _ ho)) (h2 c o _ h3 List.mem_cons_self) h4]
theorem nsu_false {u : Nat → Nat → Nat} {φ : (Nat → Nat) → Bool} : ∀ (zs : List Nat) (j : Nat) (c : Nat → Nat), (∀ x, φ x = false) → nsu φ u zs j c = 0 := by
  intro zs
  induction zs with
  | nil => intro j c h; rw [nsu, h]; rfl
  | cons o os ih =>
    intro j c h
    rw [nsu, fb_sm_cong (g := fun _ => 0) (fun d _ => by rw [ih _ _ h, Nat.mul_zero]), fb_sm_const, Nat.mul_zero]
theorem sm_one {f : Nat → Nat} {i : Nat} : ∀ {n : Nat}, i < n → (∀ g, g < n → g ≠ i → f g = 0) → fb_sm f n = f i
  | 0, h, _ => by omega
  | n + 1, h, h2 => by
    rw [fb_sm_succ]
    by_cases e : i = n
    · subst e
      rw [fb_sm_cong (g := fun _ => 0) (fun k hk => h2 k (by omega) (by omega)), fb_sm_const, Nat.mul_zero, Nat.zero_add]
    · rw [sm_one (by omega) (fun g hg hgi => h2 g (by omega) hgi), h2 n (by omega) (by omega), Nat.add_zero]
theorem sm_none {f : Nat → Nat} {n : Nat} (h : ∀ g, g < n → f g = 0) : fb_sm f n = 0 := by
  rw [fb_sm_cong (g := fun _ => 0) h, fb_sm_const, Nat.mul_zero]
theorem sm_swap (a r v s : Nat → Nat) (n : Nat) : ∀ m, fb_sm (fun d => a d * fb_sm (fun g => if r d = s g then v g else 0) n) m = fb_sm (fun g => fb_sm (fun d => if r d = s g then a d else 0) m * v g) n
  | 0 => by
    rw [show fb_sm (fun d => a d * fb_sm (fun g => if r d = s g then v g else 0) n) 0 = 0 from rfl]
    exact (sm_none (fun g _ => by rw [show fb_sm (fun d => if r d = s g then a d else 0) 0 = 0 from rfl, Nat.zero_mul])).symm
  | m + 1 => by
    rw [fb_sm_succ, sm_swap a r v s n m, ← sm_mul, ← fb_sm_add]
    apply fb_sm_cong
    intro g _
    rw [fb_sm_succ, Nat.add_mul]
    congr 1
    by_cases e : r m = s g
    · rw [if_pos e, if_pos e]
    · rw [if_neg e, if_neg e, Nat.mul_zero, Nat.zero_mul]
/-! ===== what the class's search of needs tells ===== -/
/-- the root that a goal wants; needs are kept as the place and one, 0 for none -/
def gr (m k v g : Nat) : Nat := if g < m then 40 + (k + 1 + g) else v - 1
def AU (c0 : Nat → Nat) (P : Nat) (u : Nat → Nat → Nat) (m k v g : Nat) : Nat := fb_sm (fun d => if rby c0 P (sp c0 P k) (d + 1) = gr m k v g then u k (d + 1) else 0) 10
def VN (T : (Nat → Nat) → Nat) (m k : Nat) (nd : Nat → Nat) (g : Nat) : Nat := if g < m then (if nd (k + 1 + g) = 0 ∨ nd (k + 1 + g) = nd k then T (chg nd (k + 1 + g) (nd k)) else 0) else T nd
def TN (c0 : Nat → Nat) (P : Nat) (u : Nat → Nat → Nat) : Nat → Nat → (Nat → Nat) → Nat
  | 0, _, _ => 1
  | m + 1, k, nd => if nd k = 0 then fb_sm (fun d => u k (d + 1)) 10 * TN c0 P u m (k + 1) nd else fb_sm (fun g => AU c0 P u m k (nd k) g * VN (TN c0 P u m (k + 1)) m k nd g) (m + 1)
def kpn (c0 : Nat → Nat) (P : Nat) (nd : Nat → Nat) (k : Nat) (x : Nat → Nat) : Bool := decide (∀ j, j < (zl c0 P).length → k ≤ j → nd j ≠ 0 → ou x P (sp c0 P j) + 1 = nd j)
theorem kpn_t {nd x : Nat → Nat} {k : Nat} : kpn c0 P nd k x = true ↔ ∀ j, j < (zl c0 P).length → k ≤ j → nd j ≠ 0 → ou x P (sp c0 P j) + 1 = nd j := decide_eq_true_iff
theorem kpn_step {nd x : Nat → Nat} {k : Nat} (h : nd k ≠ 0 → k < (zl c0 P).length → ou x P (sp c0 P k) + 1 = nd k) : kpn c0 P nd k x = kpn c0 P nd (k + 1) x := by
  rw [Bool.eq_iff_iff, kpn_t, kpn_t]
  constructor
  · intro h1 j hj hk; exact h1 j hj (by omega)
  · intro h1 j hj hk h0
    by_cases e : j = k
    · subst e; exact h h0 hj
    · exact h1 j hj (by omega) h0
theorem TN_nsu {u : Nat → Nat → Nat} (hP : P ≤ 40) : ∀ (m k : Nat) (nd c : Nat → Nat), k + m = (zl c0 P).length → (∀ q, q < P → q ∉ (zl c0 P).drop k → 1 ≤ c q ∧ c q ≤ 10) → (∀ q, q < P → c0 q ≠ 0 → c q = c0 q) → (∀ j, nd j ≤ P) → nsu (kpn c0 P nd k) u ((zl c0 P).drop k) k c = TN c0 P u m k nd := by
  intro m
  induction m with
  | zero =>
    intro k nd c hk h1 h2 h3
    rw [List.drop_of_length_le (by omega), nsu, TN, if_pos]
    rw [kpn_t]
    intro j hj hkj; omega
  | succ m ih =>
    intro k nd c hk h1 h2 h3
    have hkl : k < (zl c0 P).length := by omega
    obtain ⟨s1, s2, s3⟩ := sp_in hkl
    rw [drop_sp hkl] at h1 ⊢
    rw [nsu, TN]
    have hnd : sp c0 P k ∉ (zl c0 P).drop (k + 1) := by
      have h4 : ((zl c0 P).drop k).Nodup := List.Nodup.sublist (List.drop_sublist _ _) (zl_nd c0 P)
      rw [drop_sp hkl] at h4
      exact (List.nodup_cons.mp h4).1
    have hop : ∀ o, o ∈ (zl c0 P).drop (k + 1) → o < P ∧ c0 o = 0 := fun o ho => zl_mem.mp (List.mem_of_mem_drop ho)
    have hag : ∀ e q, q < P → c0 q ≠ 0 → chg c (sp c0 P k) e q = c0 q := by
      intro e q hq h0
      unfold chg
      rw [if_neg (fun e2 => h0 (by rw [e2]; exact s2))]
      exact h2 q hq h0
    -- the ways on, where the condition is another one
    have on : ∀ (d : Nat) (ψ : (Nat → Nat) → Bool), d < 10 → (∀ x, fw c0 P x → x (sp c0 P k) = d + 1 → kpn c0 P nd k x = ψ x) → nsu (kpn c0 P nd k) u ((zl c0 P).drop (k + 1)) (k + 1) (chg c (sp c0 P k) (d + 1)) = nsu ψ u ((zl c0 P).drop (k + 1)) (k + 1) (chg c (sp c0 P k) (d + 1)) := by
      intro d ψ hd hh
      refine nsu_ext (P := P) (Q := fun x => (∀ q, q < P → c0 q ≠ 0 → x q = c0 q) ∧ x (sp c0 P k) = d + 1) _ _ _ (chg_pre (by omega) (by omega) h1) ?_ ⟨hag (d + 1), ?_⟩ (fun x hx hq => hh x ⟨hx, hq.1⟩ hq.2)
      · intro x o e hx ho
        have := hop o ho
        refine ⟨fun q hq h0 => ?_, ?_⟩
        · unfold chg
          rw [if_neg (fun e2 => h0 (by rw [e2]; exact this.2))]
          exact hx.1 q hq h0
        · unfold chg
          rw [if_neg (fun e2 => hnd (by rw [e2]; exact ho))]
          exact hx.2
      · unfold chg; rw [if_pos rfl]
    have ihd : ∀ (d : Nat) (nd' : Nat → Nat), d < 10 → (∀ j, nd' j ≤ P) → nsu (kpn c0 P nd' (k + 1)) u ((zl c0 P).drop (k + 1)) (k + 1) (chg c (sp c0 P k) (d + 1)) = TN c0 P u m (k + 1) nd' := fun d nd' hd h => ih (k + 1) nd' _ (by omega) (chg_pre (by omega) (by omega) h1) (hag (d + 1)) h
    by_cases e0 : nd k = 0
    · rw [if_pos e0, fb_sm_cong (g := fun d => u k (d + 1) * TN c0 P u m (k + 1) nd) (fun d hd => ?_), sm_mulr]
      rw [on d (kpn c0 P nd (k + 1)) hd (fun x _ _ => kpn_step (fun h => absurd e0 h)), ihd d nd hd h3]
    · rw [if_neg e0]
      have key : ∀ d, d < 10 → nsu (kpn c0 P nd k) u ((zl c0 P).drop (k + 1)) (k + 1) (chg c (sp c0 P k) (d + 1)) = fb_sm (fun g => if rby c0 P (sp c0 P k) (d + 1) = gr m k (nd k) g then VN (TN c0 P u m (k + 1)) m k nd g else 0) (m + 1) := by
        intro d hd
        have hk40 := h3 k
        rcases rby_cases (c0 := c0) s1 (show 1 ≤ d + 1 by omega) with hr | ⟨o, g1, g2, g3, g4⟩
        · by_cases er : rby c0 P (sp c0 P k) (d + 1) + 1 = nd k
          · rw [on d (kpn c0 P nd (k + 1)) hd (fun x hx hxd => kpn_step (fun _ _ => by rw [(rby_ou hx hP s1 hxd).1 hr]; exact er)), ihd d nd hd h3]
            rw [sm_one (i := m) (by omega) (fun g hg hgm => ?_)]
            · unfold gr VN
              rw [if_neg (Nat.lt_irrefl _), if_neg (Nat.lt_irrefl _), if_pos (by omega)]
            · unfold gr
              rw [if_pos (show g < m by omega), if_neg (by omega)]
          · rw [on d (fun _ => false) hd (fun x hx hxd => ?_), nsu_false _ _ _ (fun _ => rfl), sm_none]
            · intro g hg
              unfold gr
              by_cases e2 : g < m
              · rw [if_pos e2, if_neg (by omega)]
              · rw [if_neg e2, if_neg (by omega)]
            · cases hh : kpn c0 P nd k x with
              | false => rfl
              | true =>
                exfalso
                have := kpn_t.mp hh k hkl (Nat.le_refl _) e0
                rw [(rby_ou hx hP s1 hxd).1 hr] at this
                exact er this
        · have hso := sp_of g2 g3
          have hlt := zl_lt s2 g1
          rw [s3] at hlt
          generalize ht : (zl c0 o).length = t at *
          have hou : ∀ x, fw c0 P x → x (sp c0 P k) = d + 1 → ou x P (sp c0 P k) = ou x P (sp c0 P t) := fun x hx hxd => by
            rw [hso.1]; exact (rby_ou hx hP s1 hxd).2 o g2 g3 (by rw [ht]; exact g4)
          rw [sm_one (i := t - k - 1) (by omega) (fun g hg hgm => ?_)]
          · have et : k + 1 + (t - k - 1) = t := by omega
            have hin : t - k - 1 < m := by omega
            unfold gr VN
            rw [if_pos hin, et, if_pos g4, if_pos hin]
            by_cases e2 : nd t = 0 ∨ nd t = nd k
            · rw [if_pos e2, on d (kpn c0 P (chg nd t (nd k)) (k + 1)) hd (fun x hx hxd => ?_), ihd d _ hd (fun j => ?_)]
              · unfold chg
                by_cases e3 : j = t
                · rw [if_pos e3]; exact h3 k
                · rw [if_neg e3]; exact h3 j
              · have h7 := hou x hx hxd
                rw [Bool.eq_iff_iff, kpn_t, kpn_t]
                constructor
                · intro h4 j hj hkj h0
                  unfold chg at h0 ⊢
                  by_cases e3 : j = t
                  · rw [if_pos e3, e3, ← h7]; exact h4 k hkl (Nat.le_refl _) e0
                  · rw [if_neg e3] at h0 ⊢; exact h4 j hj (by omega) h0
                · intro h4 j hj hkj h0
                  have h8 := h4 t hso.2 (by omega) (by unfold chg; rw [if_pos rfl]; exact e0)
                  unfold chg at h8
                  rw [if_pos rfl] at h8
                  by_cases e4 : j = k
                  · rw [e4, h7]; exact h8
                  · by_cases e3 : j = t
                    · rw [e3] at h0 ⊢
                      rcases e2 with e2 | e2
                      · exact absurd e2 h0
                      · rw [e2]; exact h8
                    · have h9 := h4 j hj (by omega) (by unfold chg; rw [if_neg e3]; exact h0)
                      unfold chg at h9
                      rw [if_neg e3] at h9
                      exact h9
            · rw [if_neg e2, on d (fun _ => false) hd (fun x hx hxd => ?_), nsu_false _ _ _ (fun _ => rfl)]
              cases hh : kpn c0 P nd k x with
              | false => rfl
              | true =>
                exfalso
                have h5 := kpn_t.mp hh k hkl (Nat.le_refl _) e0
                have h6 := kpn_t.mp hh t hso.2 (by omega) (fun q => e2 (Or.inl q))
                rw [hou x hx hxd] at h5
                exact e2 (Or.inr (by omega))
          · unfold gr
            by_cases e2 : g < m
            · rw [if_pos e2, if_neg (by omega)]
            · rw [if_neg e2, if_neg (by omega)]
      rw [fb_sm_cong (fun d hd => by rw [key d hd])]
      exact sm_swap (fun d => u k (d + 1)) (fun d => rby c0 P (sp c0 P k) (d + 1)) (VN (TN c0 P u m (k + 1)) m k nd) (gr m k (nd k)) (m + 1) 10
end RT
