section GO2
variable {c0 : Nat → Nat} {P B a l wk z : Nat} {zi : Int32} {sf : Bool} {ct : Nat → Int32}
theorem zf_mem {o : Nat} : ∀ r, r ≤ P → (o ∈ zf c0 P r ↔ P - r ≤ o ∧ o < P ∧ c0 o = 0) := by
  intro r
  induction r with
  | zero => intro _; rw [zf]; constructor
            · intro h; cases h
            · rintro ⟨h1, h2, _⟩; omega
  | succ r ih =>
    intro hr
    have ih' := ih (by omega)
    rw [zf]
    by_cases e : c0 (P - (r + 1)) = 0
    · rw [if_pos e, List.mem_cons, ih']
      constructor
      · rintro (h | ⟨h1, h2, h3⟩)
        · subst h; exact ⟨Nat.le_refl _, by omega, e⟩
        · exact ⟨by omega, h2, h3⟩
      · rintro ⟨h1, h2, h3⟩
        by_cases eq : o = P - (r + 1)
        · exact Or.inl eq
        · exact Or.inr ⟨by omega, h2, h3⟩
    · rw [if_neg e, ih']
      constructor
      · rintro ⟨h1, h2, h3⟩; exact ⟨by omega, h2, h3⟩
      · rintro ⟨h1, h2, h3⟩
        refine ⟨?_, h2, h3⟩
        by_cases eq : o = P - (r + 1)
        · subst eq; exact absurd h3 e
        · omega
theorem SM_dead_all {c : Nat → Nat} {p r m : Nat} (hp : p < P) (hr : P - p = r + 1) (hB : B ≤ P) (hsame : ∀ q, p ≤ q → c q = c0 q) (hlow : ∀ q, q < p → 1 ≤ c q ∧ c q ≤ 10) (hc10 : ∀ q, q < P → c0 q ≤ 10) (hdead : ∀ b, b < B → cur c p b ≠ p)
    (hl1 : 1 ≤ l) (hl10 : l ≤ 10) (hal : a.testBit l = true) (hlm : ∀ d, d < l → a.testBit d = false) :
    scl m (SM a.testBit (hld wk z P B) (rkf sf P B) (p :: zf c0 P r) c) = scl (m * mny a) (SM a.testBit (hld wk z P B) (rkf sf P B) (zf c0 P r) (chg c p l)) := by
  have hos : ∀ o ∈ zf c0 P r, p < o := fun o ho => by
    have := (zf_mem r (by omega)).mp ho
    omega
  have hx : ∀ q, q < P → q ≠ p → q ∉ zf c0 P r → 1 ≤ c q ∧ c q ≤ 10 := fun q h1 h2 h3 => by
    by_cases e : q < p
    · exact hlow q e
    · have h4 := hsame q (by omega)
      rw [h4]
      refine ⟨?_, hc10 q h1⟩
      rcases Nat.eq_zero_or_pos (c0 q) with z0 | z0
      · exact absurd ((zf_mem r (by omega)).mpr ⟨by omega, h1, z0⟩) h3
      · exact z0
  have hD : ∀ d, 1 ≤ d ∧ d ≤ 10 → SM a.testBit (hld wk z P B) (rkf sf P B) (zf c0 P r) (chg c p d) = mpB (fun x => chg x p d) (SM a.testBit (hld wk z P B) (rkf sf P B) (zf c0 P r) (chg c p l)) := fun d hd => SM_dead hp hB ⟨hl1, hl10⟩ hd (zf c0 P r) c hos hx hdead
  rw [SM]
  have e1 : ncb (fun d => if a.testBit (d + 1) = true then SM a.testBit (hld wk z P B) (rkf sf P B) (zf c0 P r) (chg c p (d + 1)) else sz) 10 = ncb (fun d => if a.testBit (d + 1) = true then mpB (fun x => chg x p (d + 1)) (SM a.testBit (hld wk z P B) (rkf sf P B) (zf c0 P r) (chg c p l)) else sz) 10 := ncb_cong 10 (fun i hi => by
    by_cases e : a.testBit (i + 1) = true
    · rw [if_pos e, if_pos e, hD (i + 1) (by omega)]
    · rw [if_neg e, if_neg e])
  rw [e1, ncb_dead (al := a.testBit) hal hlm hl1 10, if_pos hl10, ← hD l ⟨hl1, hl10⟩]
  unfold scl mny
  dsimp only
  rw [Nat.mul_assoc]
theorem s_go_21 {G : Int32 → Int32 → Int64 → Int64 → Int64 → Int32 → Int32 → Int32 → Int32 → Int32 → Int32 → Int32 → Int32 → Int32 → Int32 → Int32 → (Nat → Int32) → (Nat → Int32) → (Nat → Int32) → Option (Int32 × Int32 × (Nat → Int32) × (Nat → Int32))} {dd : Nat} (hG : GSp c0 P B a l wk z zi sf ct G dd)
    (hP : P ≤ 40) (hB1 : 1 ≤ B) (hB : B ≤ P) (ha : a < 2048) (hct : AR ct c0 P) (hc10 : ∀ q, q < P → c0 q ≤ 10) (hl4 : (zl c0 P).length ≤ 4) (hwk : wk ≤ 3) (hz : wk = 3 → zi = nI z ∧ z < P) (hsf : sf = true → wk = 0)
    (hl1 : 1 ≤ l) (hl10 : l ≤ 10) (hal : a.testBit l = true) (hlm : ∀ d, d < l → a.testBit d = false) :
    ∀ (n p : Nat) (c : Nat → Nat) (V O Q : Nat) (s : SS) (m : Nat) (ways rank : Int32) (tried kept : Nat → Int32), p ≤ P → P - p < n → (zf c0 P (P - p)).length ≤ dd → GT c0 c P B p V O tried → QS c B p Q → KS (zl c0 P) s ways rank kept →
    ∃ ways' rank' tried' kept', f_X4_goOn_21 G (nI P) (nI B) (nI a) (nI l) (nI (mny a)) (nI wk) zi (b01 sf) ct n (nI (zl c0 p).length) (nI m) (lN V) (lN O) (lN Q) (nI p) ways rank tried kept = some (ways', rank', tried', kept') ∧
      KS (zl c0 P) (cmb s (scl m (SM a.testBit (hld wk z P B) (rkf sf P B) (zf c0 P (P - p)) c))) ways' rank' kept' ∧ ∀ i, i < (zl c0 p).length → tried' i = tried i := by
  intro n
  induction n with
  | zero => intro p c V O Q s m ways rank tried kept h1 h2; omega
  | succ n ih =>
    intro p c V O Q s m ways rank tried kept h1 h2 hdd hgt hQ hk
    obtain ⟨hsame, hlow, htr, hV, hO⟩ := hgt
    rw [f_X4_goOn_21]
    by_cases e : p = P
    · subst e
      obtain ⟨w1, r1, k1, g1, g2⟩ := s_weigh (m := m) (zs := zl c0 p) hlow hP hB1 hB hwk hz hsf hO hQ hk hl4 htr
      rw [if_pos (ile (Nat.le_refl _) (by omega)), g1, bd_s, Nat.sub_self]
      exact ⟨_, _, _, _, rfl, g2, fun i _ => rfl⟩
    · have hp : p < P := by omega
      obtain ⟨r, hr⟩ : ∃ r, P - p = r + 1 := ⟨P - p - 1, by omega⟩
      have hpr : P - (r + 1) = p := by omega
      have hpr1 : P - (p + 1) = r := by omega
      have hV64 : V < 2 ^ 64 := Nat.lt_trans hV.1 (by decide)
      have hO63 : O < 2 ^ 63 := Nat.lt_trans hO.1 (by decide)
      have hcp := hsame p (Nat.le_refl _)
      have hzf : zf c0 P (r + 1) = if c0 p = 0 then p :: zf c0 P r else zf c0 P r := by rw [zf, hpr]
      rw [hr] at hdd ⊢
      rw [hzf] at hdd ⊢
      rw [if_neg (inle hp (by omega)), inB_t (by omega) (by omega), ck_t, ix_nI (by omega), hct p hp]
      have hQn : ∃ eb : Bool, eb = decide (O = 0 ∧ V / 2 ^ p = 1) ∧ QS c B (p + 1) (if eb = true then Q ||| 2 ^ p else Q) :=
        ⟨_, rfl, QS_next hQ (by omega) _ (by rw [decide_eq_true_eq]; exact all_at (fun q hq => (hlow q hq).1) hO hV hp hB hB1)⟩
      obtain ⟨eb, heb, hQ'⟩ := hQn
      have dead_of : V.testBit p = false → ∀ b, b < B → cur c p b ≠ p := fun hv b hb e2 => by
        have := (hV.2 p (Nat.le_refl _)).mpr ⟨hp, b, hb, e2⟩
        rw [hv] at this; cases this
      have deadQ : V.testBit p = false → QS c B (p + 1) Q := fun hv => by
        have := QS_next hQ (show p < 40 by omega) false ⟨fun x => Bool.noConfusion x, fun x => absurd (x 0 (by omega)) (dead_of hv 0 (by omega))⟩
        exact this
      have sh : jlushr (lN V) (nI p) = lN (V / 2 ^ p) := wb_shr (by omega) (by omega)
      have hVp : V / 2 ^ p < 2 ^ 63 := Nat.lt_of_le_of_lt (Nat.div_le_self _ _) (Nat.lt_trans hV.1 (by decide))
      have h51 : V.testBit p = true → ∀ (K : Int32 → Int32 → Int64 → Int64 → Int64 → Int32 → Int32 → Int32 → (Nat → Int32) → (Nat → Int32) → Option (Int32 × Int32 × (Nat → Int32) × (Nat → Int32))) (s0 : Int32),
          f_X4_goOn_51 G (nI P) (nI B) (nI a) (nI l) (nI (mny a)) (nI wk) zi (b01 sf) ct K (nI (zl c0 p).length) (nI m) (lN V) (lN O) (lN Q) (nI p) s0 ways rank tried kept = f_X4_goOn_122 G (nI P) (nI B) (nI a) (nI l) (nI (mny a)) (nI wk) zi (b01 sf) ct K (nI (zl c0 p).length) (nI m) (lN V) (lN O) (lN (if eb = true then Q ||| 2 ^ p else Q)) (nI p) s0 ways rank tried kept := by
        intro hv K s0
        rw [f_X4_goOn_51, if_neg (fun x => by rw [(tb_test hV64 (by omega)).mp x] at hv; cases hv), sh, shl_1 (by omega), fb_orL, heb]
        have h1l : lg_cmp (lN (V / 2 ^ p)) (1 : Int64) = 0 ↔ V / 2 ^ p = 1 := by
          rw [lg_eq, show (1 : Int64) = lN 1 from rfl, pk_lEQ hVp (by decide)]
        by_cases e1 : O = 0
        · rw [if_pos ((lgz hO63).mpr e1)]
          by_cases e2 : V / 2 ^ p = 1
          · rw [if_pos (h1l.mpr e2), decide_eq_true (And.intro e1 e2), if_pos rfl]
          · rw [if_neg (fun x => e2 (h1l.mp x)), decide_eq_false (fun x => e2 x.2), if_neg (by decide)]
        · rw [if_neg (fun x => e1 ((lgz hO63).mp x)), decide_eq_false (fun x => e1 x.1), if_neg (by decide)]
      by_cases h0 : c0 p = 0
      · have hj4 : (zl c0 p).length < 4 := by
          have h3 : (zl c0 (p + 1)).length ≤ (zl c0 P).length := by rw [zl_len, zl_len]; exact fb_ct_mono _ (by omega)
          rw [len_next h0] at h3
          omega
        rw [if_pos h0] at hdd ⊢
        rw [List.length_cons] at hdd
        rw [h0, if_pos (show nI 0 = 0 from rfl), if_neg (show ¬ (4 : Int32) ≤ nI (zl c0 p).length from inle (b := 4) hj4 (by omega))]
        cases hv : V.testBit p with
        | false =>
          have heq : ∀ q, q < p → c q = chg c p l q := fun q hq => by unfold chg; rw [if_neg (by omega)]
          have hV' := VS_dead (VS_cong hV heq) hv hp
          have hO' := OS_next (OS_cong hO heq) (VS_cong hV heq) hp hP
          rw [hv, if_neg (fun x => by cases x.1)] at hO'
          rw [f_X4_goOn_51, if_pos ((tb_test hV64 (by omega)).mpr hv), if_neg (by decide), inB_t hj4 (by decide), ck_t, nI_p1, nI_p1, pk_mul, ix_nI (by omega)]
          obtain ⟨w1, r1, t1, k1, g1, g2, g3⟩ := ih (p + 1) (chg c p l) V O Q s (m * mny a) ways rank (upd tried (zl c0 p).length (nI l)) kept (by omega) (by omega) (by rw [hpr1]; omega)
            ⟨fun q hq => by unfold chg; rw [if_neg (by omega)]; exact hsame q (by omega), fun q hq => by
              unfold chg
              by_cases eq : q = p
              · rw [if_pos eq]; omega
              · rw [if_neg eq]; exact hlow q (by omega), tr_next h0 htr, hV', hO'⟩ (QS_cong (deadQ hv) heq) hk
          rw [len_next h0] at g1 g3
          refine ⟨w1, r1, t1, k1, g1, ?_, fun i hi => by rw [g3 i (by omega), upd_at, if_neg (by omega)]⟩
          rw [hpr1] at g2
          rw [SM_dead_all hp hr hB hsame hlow hc10 (dead_of hv) hl1 hl10 hal hlm]
          exact g2
        | true =>
          obtain ⟨w1, r1, t1, k1, g1, g2, g3⟩ := s_try_3 (m := m) (s := s) hG hP hp ha h0 hl4 hj4 (by rw [hpr1]; omega) hsame hlow hV hv hO hQ' FU 0 ways rank tried kept (by omega) (FU_ge (by omega)) (by rw [ncb, scl_sz, cmb_sz]; exact hk) htr
          rw [h51 hv, f_X4_goOn_122, if_neg (by decide), f_X4_tryCounts]
          have g1' : f_X4_tryCounts_3 G (nI p) (nI (zl c0 p).length) (lN V) (lN O) (lN (if eb = true then Q ||| 2 ^ p else Q)) (nI m) (nI P) (nI B) (nI a) (nI l) (nI (mny a)) (nI wk) zi (b01 sf) ct FU (1 : Int32) ways rank tried kept = _ := g1
          rw [g1', bd_s]
          refine ⟨w1, r1, t1, k1, rfl, ?_, g3⟩
          rw [SM]
          rw [hpr1] at g2
          exact g2
      · have h10 := hc10 p hp
        have hlen : zl c0 (p + 1) = zl c0 p := by rw [zl_succ, if_neg h0, List.append_nil]
        rw [if_neg h0] at hdd ⊢
        rw [if_neg (show ¬ nI (c0 p) = 0 by rw [q_0]; exact ine h0 (by omega) (by omega))]
        have go : ∀ V' O' Q', VS c P B (p + 1) V' → OS c P B (p + 1) O' → QS c B (p + 1) Q' → ∃ ways' rank' tried' kept', f_X4_goOn_21 G (nI P) (nI B) (nI a) (nI l) (nI (mny a)) (nI wk) zi (b01 sf) ct n (nI (zl c0 p).length) (nI m) (lN V') (lN O') (lN Q') (nI (p + 1)) ways rank tried kept = some (ways', rank', tried', kept') ∧
            KS (zl c0 P) (cmb s (scl m (SM a.testBit (hld wk z P B) (rkf sf P B) (zf c0 P r) c))) ways' rank' kept' ∧ ∀ i, i < (zl c0 p).length → tried' i = tried i := by
          intro V' O' Q' v o q'
          have := ih (p + 1) c V' O' Q' s m ways rank tried kept (by omega) (by omega) (by rw [hpr1]; exact hdd) ⟨fun q hq => hsame q (by omega), fun q hq => by
            by_cases eq : q = p
            · rw [eq, hcp]; omega
            · exact hlow q (by omega), by rw [hlen]; exact htr, v, o⟩ q' hk
          rw [hlen, hpr1] at this
          exact this
        cases hv : V.testBit p with
        | false =>
          have hO' := OS_next hO hV hp hP
          rw [hv, if_neg (fun x => by cases x.1)] at hO'
          rw [f_X4_goOn_51, if_pos ((tb_test hV64 (by omega)).mpr hv), if_pos rfl, nI_p1]
          exact go V O Q (VS_dead hV hv hp) hO' (deadQ hv)
        | true =>
          have hV' := VS_alive hV hv hp hP (by rw [hcp]; omega)
          have hO' := OS_next hO hV hp hP
          rw [hcp] at hV' hO'
          rw [h51 hv, f_X4_goOn_122, if_pos rfl, inB_t (by omega) (by omega), ck_t, ix_nI (by omega), hct p hp, nI_add, nI_p1]
          by_cases e2 : p + c0 p < P
          · rw [if_pos e2] at hV'
            rw [if_neg (fun x => by omega)] at hO'
            rw [if_neg (inle e2 (by omega)), shl_1 (by omega), fb_orL]
            exact go _ _ _ hV' hO' hQ'
          · rw [if_neg e2] at hV'
            rw [if_pos ⟨hv, by omega⟩] at hO'
            rw [if_pos (ile (by omega) (by omega)), shl_1 (by omega), fb_orL]
            exact go _ _ _ hV' hO' hQ'
end GO2
