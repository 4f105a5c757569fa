/-! ===== the class at the end of a way ===== -/
def mny (a : Nat) : Nat := fb_ct (fun d => a.testBit (d + 1)) 10
set_option maxRecDepth 100000 in
theorem j6_all : ∀ a : Fin 2048, f_J6_bitCount_0f7a4 (nI a.val) = some (nI (pct a.val 11)) := by decide +kernel
theorem s_many4 {a : Nat} (ha : a < 2048) (h0 : a.testBit 0 = false) : f_J6_bitCount_0f7a4 (nI a) = some (nI (mny a)) := by
  have := j6_all ⟨a, ha⟩
  dsimp only at this
  rw [this]
  congr 2
  unfold pct mny
  rw [show (11 : Nat) = 1 + 10 from rfl, fb_ct_split]
  have e1 : fb_ct (fun i => a.testBit i) 1 = 0 := by
    rw [fb_ct_succ, h0, if_neg (by decide)]; rfl
  rw [e1, Nat.zero_add]
  exact fb_ct_cong (fun k _ => by rw [Nat.add_comm])
section LEAF
variable {c : Nat → Nat} {P B : Nat}
theorem ou_self (hc : okc c P) {q : Nat} (hq : q < P) : ou c P q = q ↔ P ≤ q + c q := by
  have h1 := hc q hq
  rw [ou_eq hc hq]
  by_cases e : q + c q < P
  · rw [if_pos e]
    have := (ou_in hc (q + c q) e).1
    omega
  · rw [if_neg e]; exact ⟨fun _ => by omega, fun _ => rfl⟩
theorem OS_strs (hc : okc c P) (hP : P ≤ 40) (hB : B ≤ P) {O : Nat} (h : OS c P B P O) : pct O 64 = strs c P B := by
  unfold pct strs
  apply fb_ct_cong
  intro q _
  rw [Bool.eq_iff_iff, h.2 q, List.any_eq_true]
  constructor
  · rintro ⟨hq, h2, b, hb, h3⟩
    refine ⟨b, List.mem_range.mpr hb, decide_eq_true ?_⟩
    have hr : rs c P b q = true := by rw [rs_cur hc hq b (by omega)]; exact decide_eq_true h3
    rw [← rs_ou hc b (by omega) q hr]
    exact (ou_self hc hq).mpr h2
  · rintro ⟨b, hb, h2⟩
    have hb' := List.mem_range.mp hb
    have h3 := of_decide_eq_true h2
    have hq := (ou_in hc b (by omega)).2
    have hr := rs_out hc b (show b < P by omega)
    have ho := rs_ou hc b (by omega) _ hr
    rw [h3] at hq hr ho
    refine ⟨hq, (ou_self hc hq).mp ho, b, hb', ?_⟩
    rw [rs_cur hc hq b (by omega)] at hr
    exact of_decide_eq_true hr
theorem QS_psd (hc : okc c P) (hB1 : 1 ≤ B) (hB : B ≤ P) {Q : Nat} (h : QS c B P Q) (q : Nat) : Q.testBit q = psd c P B q := by
  rw [Bool.eq_iff_iff, h.2 q, psd_iff]
  constructor
  · rintro ⟨hq, h2⟩ b hb
    rw [rs_cur hc hq b (by omega)]; exact decide_eq_true (h2 b hb)
  · intro h2
    have hq : q < P := (rs_ge hc 0 (by omega) q (h2 0 (by omega))).2
    refine ⟨hq, fun b hb => ?_⟩
    have := h2 b hb
    rw [rs_cur hc hq b (by omega)] at this
    exact of_decide_eq_true this
theorem s_holds4 {wk z Q : Nat} {zi : Int32} (hc : okc c P) (hP : P ≤ 40) (hB1 : 1 ≤ B) (hB : B ≤ P) (hwk : wk ≤ 3) (hz : wk = 3 → zi = nI z ∧ z < P) (hQ : QS c B P Q) : f_X4_holds (nI (strs c P B)) (lN Q) (nI B) (nI wk) zi = some (b01 (hld wk z P B c)) := by
  have hs64 : strs c P B ≤ 64 := fb_ct_le _ _
  rw [f_X4_holds]
  unfold hld
  have h4 : wk = 0 ∨ wk = 1 ∨ wk = 2 ∨ wk = 3 := by omega
  rcases h4 with e | e | e | e <;> subst e
  · rw [if_pos (show nI 0 = 0 from rfl), if_pos (show (0 : Nat) = 0 from rfl)]
    by_cases h : strs c P B = 1
    · rw [if_pos (show nI (strs c P B) = 1 by rw [h]; rfl), decide_eq_true h]; rfl
    · rw [if_neg (show ¬ nI (strs c P B) = 1 from ine (b := 1) h (by omega) (by omega)), decide_eq_false h]; rfl
  · rw [if_neg (show ¬ nI 1 = 0 by decide), if_pos (show nI 1 = 1 from rfl), if_neg (show ¬ (1 : Nat) = 0 by decide), if_pos (show (1 : Nat) = 1 from rfl)]
    by_cases h : strs c P B = B
    · rw [if_pos (show nI (strs c P B) = nI B by rw [h]), decide_eq_true h]; rfl
    · rw [if_neg (show ¬ nI (strs c P B) = nI B from ine h (by omega) (by omega)), decide_eq_false h]; rfl
  · rw [if_neg (show ¬ nI 2 = 0 by decide), if_neg (show ¬ nI 2 = 1 by decide), if_pos (show nI 2 = 2 from rfl), if_neg (show ¬ (2 : Nat) = 0 by decide), if_neg (show ¬ (2 : Nat) = 1 by decide), if_pos (show (2 : Nat) = 2 from rfl)]
    by_cases h : strs c P B = 2
    · rw [if_pos (show nI (strs c P B) = 2 by rw [h]; rfl), decide_eq_true h]; rfl
    · rw [if_neg (show ¬ nI (strs c P B) = 2 from ine (b := 2) h (by omega) (by omega)), decide_eq_false h]; rfl
  · obtain ⟨rfl, hzP⟩ := hz rfl
    have hQ64 : Q < 2 ^ 64 := Nat.lt_trans hQ.1 (by decide)
    rw [if_neg (show ¬ nI 3 = 0 by decide), if_neg (show ¬ nI 3 = 1 by decide), if_neg (show ¬ nI 3 = 2 by decide), if_neg (show ¬ (3 : Nat) = 0 by decide), if_neg (show ¬ (3 : Nat) = 1 by decide), if_neg (show ¬ (3 : Nat) = 2 by decide), ← QS_psd hc hB1 hB hQ]
    cases hb : Q.testBit z with
    | false => rw [if_pos ((tb_test hQ64 (by omega)).mpr hb)]; rfl
    | true => rw [if_neg (fun x => by rw [(tb_test hQ64 (by omega)).mp x] at hb; cases hb)]; rfl
/-- what the class keeps while it seeks -/
def KS (zs : List Nat) (s : SS) (ways rank : Int32) (kept : Nat → Int32) : Prop := ways = nI s.1 ∧ ((s.2 = none ∧ rank = nI 40) ∨ ∃ r x, s.2 = some (r, x) ∧ r < 40 ∧ rank = nI r ∧ ∀ (i o : Nat), zs[i]? = some o → kept i = nI (x o))
def scl (m : Nat) (S : SS) : SS := (m * S.1, S.2)
theorem scl_cmb (m : Nat) (a b : SS) : scl m (cmb a b) = cmb (scl m a) (scl m b) := by
  unfold scl cmb
  dsimp only
  rw [Nat.mul_add]
theorem scl_sz (m : Nat) : scl m sz = sz := by unfold scl sz; rfl
def rkf (sf : Bool) (P B : Nat) : (Nat → Nat) → Nat := if sf = true then rkS P B else fun _ => 0
theorem s_weigh_39 {zs : List Nat} {s : SS} {ways rank : Int32} {kept tried : Nat → Int32} {m r : Nat} (hk : KS zs s ways rank kept) (hl : zs.length ≤ 4) (ht : ∀ (i o : Nat), zs[i]? = some o → tried i = nI (c o)) (hr : r < 40) :
    ∃ ways' rank' kept', f_X4_weigh_39 tried (nI r) (ways + nI m) rank kept = some (ways', rank', kept') ∧ KS zs (cmb s (m, some (r, c))) ways' rank' kept' := by
  obtain ⟨rfl, hk2⟩ := hk
  rw [f_X4_weigh_39, nI_add, show ix (0 : Int32) = 0 from rfl, show ix (4 : Int32) = 4 from rfl, cpy_fill]
  have hfill : ∀ (i o : Nat), zs[i]? = some o → fa_fill tried kept 4 i = nI (c o) := fun i o h => by
    have : i < zs.length := (List.getElem?_eq_some_iff.mp h).1
    rw [fa_fill_in (by omega)]; exact ht i o h
  rcases hk2 with ⟨h1, h2⟩ | ⟨r0, x, h1, h2, h3, h4⟩
  · subst h2
    rw [if_neg (inle hr (by omega))]
    exact ⟨_, _, _, rfl, rfl, Or.inr ⟨r, c, by unfold cmb; rw [h1]; rfl, hr, rfl, hfill⟩⟩
  · subst h3
    by_cases e : r0 ≤ r
    · rw [if_pos (ile e (by omega))]
      exact ⟨_, _, _, rfl, rfl, Or.inr ⟨r0, x, by unfold cmb pick; rw [h1]; dsimp only; rw [if_pos e], h2, rfl, h4⟩⟩
    · rw [if_neg (inle (by omega) (by omega))]
      exact ⟨_, _, _, rfl, rfl, Or.inr ⟨r, c, by unfold cmb pick; rw [h1]; dsimp only; rw [if_neg e], hr, rfl, hfill⟩⟩
theorem s_weigh {zs : List Nat} {s : SS} {ways rank zi : Int32} {kept tried : Nat → Int32} {m wk z O Q : Nat} {sf : Bool} (hc : okc c P) (hP : P ≤ 40) (hB1 : 1 ≤ B) (hB : B ≤ P) (hwk : wk ≤ 3) (hz : wk = 3 → zi = nI z ∧ z < P) (hsf : sf = true → wk = 0) (hO : OS c P B P O) (hQ : QS c B P Q)
    (hk : KS zs s ways rank kept) (hl : zs.length ≤ 4) (ht : ∀ (i o : Nat), zs[i]? = some o → tried i = nI (c o)) :
    ∃ ways' rank' kept', f_X4_weigh (lN O) (lN Q) (nI m) (nI B) (nI wk) zi (b01 sf) ways rank tried kept = some (ways', rank', kept') ∧ KS zs (cmb s (scl m (lf (hld wk z P B) (rkf sf P B) c))) ways' rank' kept' := by
  rw [f_X4_weigh, s_bitCount (Nat.lt_trans hO.1 (by decide)), bd_s, OS_strs hc hP hB hO, s_holds4 hc hP hB1 hB hwk hz hQ, bd_s]
  unfold lf
  cases hh : hld wk z P B c with
  | false =>
    rw [if_pos (show b01 false = 0 from rfl), if_neg (by decide), scl_sz, cmb_sz]
    exact ⟨_, _, _, rfl, hk⟩
  | true =>
    rw [if_neg (show ¬ b01 true = 0 by decide), if_pos rfl]
    unfold scl
    dsimp only
    rw [Nat.mul_one]
    cases hs : sf with
    | false =>
      rw [if_pos (show b01 false = 0 from rfl)]
      exact s_weigh_39 (r := 0) hk hl ht (by decide)
    | true =>
      have hw0 := hsf hs
      subst hw0
      have hst : strs c P B = 1 := by
        unfold hld at hh
        rw [if_pos rfl] at hh
        exact of_decide_eq_true hh
      have hps := one_psd hc hP hB1 hB hst
      have hsp := fpp_spec P 0 _ (Nat.zero_le _) (by rw [Nat.zero_add]; exact hps.2) hps.1
      have hrk : rkS P B c < 40 := by
        have := hsp.2.2.1
        have := hps.2
        unfold rkS
        omega
      have hlb : f_X5_leastBit (lN Q) = some (nI (rkS P B c)) := s_leastBit (Nat.lt_trans hQ.1 (by decide)) (by rw [QS_psd hc hB1 hB hQ]; exact hsp.1) (fun i hi => by rw [QS_psd hc hB1 hB hQ]; exact hsp.2.2.2 i (Nat.zero_le _) hi)
      rw [if_neg (show ¬ b01 true = 0 by decide), hlb, bd_s]
      exact s_weigh_39 (r := rkS P B c) hk hl ht hrk
end LEAF
