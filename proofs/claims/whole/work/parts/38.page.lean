/-! ===== a page laid as counts, by the class (read, follow) and by the reference (lay) ===== -/
def ctf (tk : Nat → Nat) (C : Nat) : Nat → Nat := fun j => cOf (tk j) C
def SG (tx : Nat → Int32) (tk : Nat → Nat) : Prop := ∀ i, tx i = nI (tk i) ∧ tk i < 65536
def SGP (tx : Nat → Int32) (tk : Nat → Nat) (P : Nat) : Prop := ∀ i, i < P → tx i = nI (tk i) ∧ tk i < 65536
theorem SG.p {tx : Nat → Int32} {tk : Nat → Nat} {P : Nat} (h : SG tx tk) : SGP tx tk P := fun i _ => h i
theorem cOf_le {k C : Nat} (hC : C ≤ 10) : cOf k C ≤ 10 := by
  unfold cOf
  repeat' split
  all_goals omega
theorem s_read_19 {tx : Nat → Int32} {tk : Nat → Nat} {C P : Nat} (hs : SGP tx tk P) (hP : P ≤ 40) (bg : Int32) (f0 : Nat → Int32) : ∀ (n i : Nat), i ≤ P → P - i < n →
    f_X2_read_19 (nI C) tx n (nI i) (nI P) bg (fa_fill (fun j => nI (ctf tk C j)) f0 i) = some (nI P, bg, fa_fill (fun j => nI (ctf tk C j)) f0 P) := by
  intro n
  induction n with
  | zero => intro i h1 h2; omega
  | succ n ih =>
    intro i h1 h2
    rw [f_X2_read_19]
    by_cases e : i = P
    · subst e; rw [if_pos (ile (Nat.le_refl _) (by omega))]
    · rw [if_neg (inle (by omega) (by omega)), inB_t (by omega) (by omega), ck_t, ix_nI (by omega), (hs i (by omega)).1, s5_countOf (hs i (by omega)).2, bd_s, nI_p1]
      rw [show nI (cOf (tk i) C) = (fun j => nI (ctf tk C j)) i from rfl, fa_fill_succ]
      exact ih (i + 1) (by omega) (by omega)
theorem s_read {tx : Nat → Int32} {tk : Nat → Nat} {C P : Nat} (hs : SGP tx tk P) (hP : P ≤ 40) (bg : Int32) (f0 : Nat → Int32) :
    f_X2_read (nI C) tx (nI P) bg f0 = some (nI P, bg, fa_fill (fun j => nI (ctf tk C j)) f0 P) := by
  have := s_read_19 (C := C) hs hP bg f0 FU 0 (Nat.zero_le _) (FU_ge (by omega))
  rw [fa_fill_0] at this
  exact this
theorem AR_fill (a : Nat → Nat) (f0 : Nat → Int32) (P : Nat) : AR (fa_fill (fun j => nI (a j)) f0 P) a P := fun i hi => fa_fill_in hi
/-- the open places below i -/
def zl (c : Nat → Nat) (i : Nat) : List Nat := (List.range i).filter (fun j => decide (c j = 0))
def opf (c : Nat → Nat) (o0 : Nat → Int32) (i : Nat) : Nat → Int32 := fun k => if k < (zl c i).length then nI ((zl c i).getD k 0) else o0 k
theorem zl_succ (c : Nat → Nat) (i : Nat) : zl c (i + 1) = zl c i ++ (if c i = 0 then [i] else []) := by
  unfold zl
  rw [List.range_succ, List.filter_append]
  congr 1
  by_cases h : c i = 0
  · rw [if_pos h]; simp [h]
  · rw [if_neg h]; simp [h]
theorem zl_len (c : Nat → Nat) : ∀ i, (zl c i).length = fb_ct (fun j => decide (c j = 0)) i
  | 0 => rfl
  | i + 1 => by
    rw [zl_succ, List.length_append, zl_len c i, fb_ct_succ]
    by_cases h : c i = 0
    · simp [h]
    · simp [h]
theorem opf_succ {c : Nat → Nat} {o0 : Nat → Int32} {i : Nat} (h : c i = 0) : upd (opf c o0 i) (zl c i).length (nI i) = opf c o0 (i + 1) := by
  funext k
  unfold opf
  rw [upd_at, zl_succ, if_pos h, List.length_append, List.length_singleton]
  by_cases e : k = (zl c i).length
  · rw [if_pos e, if_pos (by omega), e]
    simp [List.getD_eq_getElem?_getD]
  · rw [if_neg e]
    by_cases e2 : k < (zl c i).length
    · rw [if_pos e2, if_pos (by omega)]
      simp [List.getD_eq_getElem?_getD, List.getElem?_append_left e2]
    · rw [if_neg e2, if_neg (by omega)]
theorem opf_same {c : Nat → Nat} {o0 : Nat → Int32} {i : Nat} (h : ¬ c i = 0) : opf c o0 (i + 1) = opf c o0 i := by
  unfold opf
  rw [zl_succ, if_neg h, List.append_nil]
theorem s_lay_7 {tx : Nat → Int32} {tk : Nat → Nat} {C P : Nat} (hs : SGP tx tk P) (hP : P ≤ 40) (hC : C ≤ 10) (hz : (zl (ctf tk C) P).length ≤ 5) (f0 o0 : Nat → Int32) : ∀ (n i : Nat), i ≤ P → P - i < n →
    f_X6_lay_7 (nI C) (nI P) tx n (nI i) (nI (zl (ctf tk C) i).length) (fa_fill (fun j => nI (ctf tk C j)) f0 i) (opf (ctf tk C) o0 i) = some (nI (zl (ctf tk C) P).length, fa_fill (fun j => nI (ctf tk C j)) f0 P, opf (ctf tk C) o0 P) := by
  intro n
  induction n with
  | zero => intro i h1 h2; omega
  | succ n ih =>
    intro i h1 h2
    rw [f_X6_lay_7]
    by_cases e : i = P
    · subst e; rw [if_pos (ile (Nat.le_refl _) (by omega))]
    · have hle : ctf tk C i ≤ 10 := cOf_le hC
      rw [if_neg (inle (by omega) (by omega)), inB_t (by omega) (by omega), ck_t, ix_nI (by omega), (hs i (by omega)).1, s6_countOf (hs i (by omega)).2, bd_s]
      rw [show nI (cOf (tk i) C) = (fun j => nI (ctf tk C j)) i from rfl, fa_fill_succ, fa_fill_in (Nat.lt_succ_self i)]
      have ih' := ih (i + 1) (by omega) (by omega)
      by_cases h : ctf tk C i = 0
      · have hmono : (zl (ctf tk C) (i + 1)).length ≤ (zl (ctf tk C) P).length := by
          rw [zl_len, zl_len]; exact fb_ct_mono _ (by omega)
        have hl1 : (zl (ctf tk C) (i + 1)).length = (zl (ctf tk C) i).length + 1 := by rw [zl_succ, if_pos h, List.length_append, List.length_singleton]
        rw [if_pos (by rw [q_0, h]), inB_t (by omega) (by omega), ck_t, ix_nI (by omega), opf_succ h]
        simp only [nI_p1]
        rw [← hl1]
        exact ih'
      · rw [if_neg (by rw [q_0]; exact ine h (by omega) (by omega)), nI_p1]
        have hl1 : (zl (ctf tk C) (i + 1)).length = (zl (ctf tk C) i).length := by rw [zl_succ, if_neg h, List.append_nil]
        rw [← hl1, ← opf_same h]
        exact ih'
theorem s_lay {tx : Nat → Int32} {tk : Nat → Nat} {C P : Nat} (hs : SGP tx tk P) (hP : P ≤ 40) (hC : C ≤ 10) (hz : (zl (ctf tk C) P).length ≤ 5) (f0 o0 : Nat → Int32) :
    f_X6_lay (nI C) (nI P) f0 tx o0 = some (nI (zl (ctf tk C) P).length, fa_fill (fun j => nI (ctf tk C j)) f0 P, opf (ctf tk C) o0 P) := by
  have := s_lay_7 hs hP hC hz f0 o0 FU 0 (Nat.zero_le _) (FU_ge (by omega))
  rw [fa_fill_0] at this
  rw [f_X6_lay]
  refine Eq.trans ?_ this
  congr 1
/-! ===== follow: outs, comers, leaders, chains ===== -/
/-- how many beginnings come to a place -/
def cmr (c : Nat → Nat) (P B q : Nat) : Nat := fb_ct (fun b => rs c P b q) B
def ldr (c : Nat → Nat) (q : Nat) : Nat → Nat := fb_ct (fun x => decide (x + c x = q))
/-- the most one behind another, of the places ahead of i looked at -/
def chn (c : Nat → Nat) : Nat → Nat → Nat
  | 0, _ => 0
  | i + 1, q => if i + c i = q then max (chn c i q) (chn c i i + 1) else chn c i q
/-- those that come to q over places below i, or begin there -/
def cmi (c : Nat → Nat) (P B : Nat) (i q : Nat) : Nat := (if q < B then 1 else 0) + fb_sm (fun x => if x + c x = q then cmr c P B x else 0) i
theorem ct_sum (B : Nat) (p : Nat → Nat → Bool) (w : Nat → Bool) : ∀ i, fb_sm (fun x => if w x = true then fb_ct (fun b => p b x) B else 0) i = fb_sm (fun b => fb_ct (fun x => w x && p b x) i) B
  | 0 => by
    rw [show fb_sm (fun x => if w x = true then fb_ct (fun b => p b x) B else 0) 0 = 0 from rfl]
    have := fb_sm_const 0 B
    rw [Nat.mul_zero] at this
    exact this.symm
  | i + 1 => by
    rw [fb_sm_succ, ct_sum B p w i]
    have h : ∀ b, fb_ct (fun x => w x && p b x) (i + 1) = fb_ct (fun x => w x && p b x) i + (if (w i && p b i) = true then 1 else 0) := fun b => fb_ct_succ _ _
    rw [fb_sm_cong (fun b _ => h b), fb_sm_add]
    congr 1
    have k : ∀ B, (if w i = true then fb_ct (fun b => p b i) B else 0) = fb_sm (fun b => if (w i && p b i) = true then 1 else 0) B := by
      intro B
      induction B with
      | zero => by_cases h : w i = true
                · rw [if_pos h]; rfl
                · rw [if_neg h]; rfl
      | succ B ih =>
        rw [fb_sm_succ, ← ih, fb_ct_succ]
        by_cases h : w i = true
        · simp [h]
        · simp [h]
    exact k B
theorem ct_one {p : Nat → Bool} {n : Nat} (h : ∀ x y, x < n → y < n → p x = true → p y = true → x = y) : fb_ct p n = if (∃ x, x < n ∧ p x = true) then 1 else 0 := by
  induction n with
  | zero =>
    rw [if_neg]
    · rfl
    · rintro ⟨x, hx, _⟩; omega
  | succ n ih =>
    rw [fb_ct_succ, ih (fun x y hx hy => h x y (by omega) (by omega))]
    by_cases hn : p n = true
    · have g : ¬ ∃ x, x < n ∧ p x = true := by
        rintro ⟨x, hx, hp⟩
        have := h x n (by omega) (by omega) hp hn
        omega
      rw [if_neg g, if_pos hn, if_pos ⟨n, by omega, hn⟩]
    · rw [if_neg hn]
      by_cases e : ∃ x, x < n ∧ p x = true
      · rw [if_pos e]
        obtain ⟨x, hx, hp⟩ := e
        rw [if_pos ⟨x, by omega, hp⟩]
      · rw [if_neg e, if_neg]
        rintro ⟨x, hx, hp⟩
        by_cases e2 : x = n
        · subst e2; exact hn hp
        · exact e ⟨x, by omega, hp⟩
theorem rs_split {c : Nat → Nat} {P b q i : Nat} (hc : okc c P) (hb : b < P) (hq : q < P) (hi : q ≤ i) (hiP : i ≤ P) : (if rs c P b q = true then 1 else 0) = (if b = q then 1 else 0) + fb_ct (fun x => decide (x + c x = q) && rs c P b x) i := by
  have huni : ∀ x y, x < i → y < i → (decide (x + c x = q) && rs c P b x) = true → (decide (y + c y = q) && rs c P b y) = true → x = y := by
    intro x y hx hy h1 h2
    rw [Bool.and_eq_true, decide_eq_true_eq] at h1 h2
    rcases Nat.lt_trichotomy x y with h | h | h
    · have := rs_gap hc b hb x y h1.2 h2.2 h
      have := (hc y (by omega)).1
      omega
    · exact h
    · have := rs_gap hc b hb y x h2.2 h1.2 h
      have := (hc x (by omega)).1
      omega
  rw [ct_one huni]
  by_cases e : b = q
  · subst e
    rw [if_pos (rs_self hc hb), if_pos rfl, if_neg]
    rintro ⟨x, hx, h⟩
    rw [Bool.and_eq_true, decide_eq_true_eq] at h
    have h3 := (rs_ge hc b hb x h.2)
    have := (hc x h3.2).1
    omega
  · rw [if_neg e]
    by_cases h : rs c P b q = true
    · rw [if_pos h]
      rcases rs_prev hc b hb q h with h2 | ⟨x, h2, h3, h4⟩
      · exact absurd h2 e
      · rw [if_pos ⟨x, by omega, by rw [h3, decide_eq_true h4]; rfl⟩]
    · rw [if_neg h, if_neg]
      rintro ⟨x, hx, h2⟩
      rw [Bool.and_eq_true, decide_eq_true_eq] at h2
      apply h
      have h5 := rs_next hc b hb x h2.2 (by omega)
      rw [h2.1] at h5; exact h5
/-- at the time a place is gone on from, all that come to it are counted -/
theorem cmi_cmr {c : Nat → Nat} {P B q i : Nat} (hc : okc c P) (hBP : B ≤ P) (hq : q < P) (hi : q ≤ i) (hiP : i ≤ P) : cmi c P B i q = cmr c P B q := by
  unfold cmi cmr
  have h1 := ct_sum B (fun b x => rs c P b x) (fun x => decide (x + c x = q)) i
  simp only [decide_eq_true_eq] at h1
  rw [h1]
  have key : ∀ B', B' ≤ P → (if q < B' then 1 else 0) + fb_sm (fun b => fb_ct (fun x => decide (x + c x = q) && rs c P b x) i) B' = fb_ct (fun b => rs c P b q) B' := by
    intro B'
    induction B' with
    | zero => intro _; rfl
    | succ B' ih =>
      intro hB'
      rw [fb_sm_succ, fb_ct_succ, ← ih (by omega), rs_split hc (by omega) hq hi hiP]
      by_cases e : B' = q
      · subst e; rw [if_pos (by omega), if_pos rfl, if_neg (by omega)]; omega
      · rw [if_neg e]
        by_cases e2 : q < B'
        · rw [if_pos e2, if_pos (by omega)]; omega
        · rw [if_neg e2, if_neg (by omega)]; omega
  exact key B hBP
