/-! ===== the class's search ===== -/
section GO
variable {c0 : Nat → Nat} {P B a l wk z : Nat} {zi : Int32} {sf : Bool} {ct : Nat → Int32}
def GT (c0 c : Nat → Nat) (P B p V O : Nat) (tried : Nat → Int32) : Prop := (∀ q, p ≤ q → c q = c0 q) ∧ (∀ q, q < p → 1 ≤ c q ∧ c q ≤ 10) ∧ (∀ (i o : Nat), (zl c0 p)[i]? = some o → tried i = nI (c o)) ∧ VS c P B p V ∧ OS c P B p O
theorem VS_cong {c c' : Nat → Nat} {p V : Nat} (h : VS c P B p V) (he : ∀ q, q < p → c q = c' q) : VS c' P B p V :=
  ⟨h.1, fun q hq => by
    rw [h.2 q hq]
    have : ∀ b, cur c p b = cur c' p b := fun b => cur_cong p he
    simp only [this]⟩
theorem OS_cong {c c' : Nat → Nat} {p O : Nat} (h : OS c P B p O) (he : ∀ q, q < p → c q = c' q) : OS c' P B p O :=
  ⟨h.1, fun q => by
    rw [h.2 q]
    constructor
    · rintro ⟨h1, h2, b, h3, h4⟩
      exact ⟨h1, by rw [← he q h1]; exact h2, b, h3, by rw [← cur_cong q (fun x hx => he x (by omega))]; exact h4⟩
    · rintro ⟨h1, h2, b, h3, h4⟩
      exact ⟨h1, by rw [he q h1]; exact h2, b, h3, by rw [cur_cong q (fun x hx => he x (by omega))]; exact h4⟩⟩
theorem QS_cong {c c' : Nat → Nat} {p Q : Nat} (h : QS c B (p + 1) Q) (he : ∀ q, q < p → c q = c' q) : QS c' B (p + 1) Q :=
  ⟨h.1, fun q => by
    rw [h.2 q]
    constructor
    · rintro ⟨h1, h2⟩
      exact ⟨h1, fun b hb => by rw [← cur_cong q (fun x hx => he x (by omega))]; exact h2 b hb⟩
    · rintro ⟨h1, h2⟩
      exact ⟨h1, fun b hb => by rw [cur_cong q (fun x hx => he x (by omega))]; exact h2 b hb⟩⟩
/-- what a call of goOn does -/
def GSp (c0 : Nat → Nat) (P B a l wk z : Nat) (zi : Int32) (sf : Bool) (ct : Nat → Int32) (G : Int32 → Int32 → Int64 → Int64 → Int64 → Int32 → Int32 → Int32 → Int32 → Int32 → Int32 → Int32 → Int32 → Int32 → Int32 → Int32 → (Nat → Int32) → (Nat → Int32) → (Nat → Int32) → Option (Int32 × Int32 × (Nat → Int32) × (Nat → Int32))) (dd : Nat) : Prop :=
  ∀ (p : Nat) (c : Nat → Nat) (V O Q : Nat) (s : SS) (m : Nat) (ways rank : Int32) (tried kept : Nat → Int32), p ≤ P → (zf c0 P (P - p)).length < dd → GT c0 c P B p V O tried → QS c B p Q → KS (zl c0 P) s ways rank kept →
    ∃ ways' rank' tried' kept', G (nI p) (nI (zl c0 p).length) (lN V) (lN O) (lN Q) (nI m) (nI P) (nI B) (nI a) (nI l) (nI (mny a)) (nI wk) zi (b01 sf) ways rank tried kept ct = some (ways', rank', tried', kept') ∧
      KS (zl c0 P) (cmb s (scl m (SM a.testBit (hld wk z P B) (rkf sf P B) (zf c0 P (P - p)) c))) ways' rank' kept' ∧ ∀ i, i < (zl c0 p).length → tried' i = tried i
theorem tr_next {c : Nat → Nat} {p d : Nat} {tried : Nat → Int32} (h0 : c0 p = 0) (htr : ∀ (i o : Nat), (zl c0 p)[i]? = some o → tried i = nI (c o)) : ∀ (i o : Nat), (zl c0 (p + 1))[i]? = some o → upd tried (zl c0 p).length (nI d) i = nI (chg c p d o) := by
  intro i o h
  rw [zl_succ, if_pos h0] at h
  rw [upd_at]
  unfold chg
  by_cases e : i = (zl c0 p).length
  · rw [if_pos e]
    rw [e, List.getElem?_append_right (Nat.le_refl _), Nat.sub_self] at h
    have : p = o := by simpa using h
    rw [if_pos this.symm]
  · rw [if_neg e]
    have hlt : i < (zl c0 p).length := by
      have := (List.getElem?_eq_some_iff.mp h).1
      rw [List.length_append, List.length_singleton] at this
      omega
    rw [List.getElem?_append_left hlt] at h
    have hm := (zl_mem.mp (List.mem_of_getElem? h)).1
    rw [if_neg (by omega)]
    exact htr i o h
theorem len_next {p : Nat} (h0 : c0 p = 0) : (zl c0 (p + 1)).length = (zl c0 p).length + 1 := by
  rw [zl_succ, if_pos h0, List.length_append, List.length_singleton]
theorem s_try_3 {G : Int32 → Int32 → Int64 → Int64 → Int64 → Int32 → Int32 → Int32 → Int32 → Int32 → Int32 → Int32 → Int32 → Int32 → Int32 → Int32 → (Nat → Int32) → (Nat → Int32) → (Nat → Int32) → Option (Int32 × Int32 × (Nat → Int32) × (Nat → Int32))} {dd p V O Q m : Nat} {c : Nat → Nat} {s : SS} (hG : GSp c0 P B a l wk z zi sf ct G dd)
    (hP : P ≤ 40) (hp : p < P) (ha : a < 2048) (h0 : c0 p = 0) (hl4 : (zl c0 P).length ≤ 4) (hj4 : (zl c0 p).length < 4) (hdd : (zf c0 P (P - (p + 1))).length < dd)
    (hsame : ∀ q, p ≤ q → c q = c0 q) (hlow : ∀ q, q < p → 1 ≤ c q ∧ c q ≤ 10) (hV : VS c P B p V) (hal : V.testBit p = true) (hO : OS c P B p O) (hQ : QS c B (p + 1) Q) :
    ∀ (n i : Nat) (ways rank : Int32) (tried kept : Nat → Int32), i ≤ 10 → 10 - i < n →
      KS (zl c0 P) (cmb s (scl m (ncb (fun d => if a.testBit (d + 1) = true then SM a.testBit (hld wk z P B) (rkf sf P B) (zf c0 P (P - (p + 1))) (chg c p (d + 1)) else sz) i))) ways rank kept →
      (∀ (i o : Nat), (zl c0 p)[i]? = some o → tried i = nI (c o)) →
      ∃ ways' rank' tried' kept', f_X4_tryCounts_3 G (nI p) (nI (zl c0 p).length) (lN V) (lN O) (lN Q) (nI m) (nI P) (nI B) (nI a) (nI l) (nI (mny a)) (nI wk) zi (b01 sf) ct n (nI (i + 1)) ways rank tried kept = some (ways', rank', tried', kept') ∧
        KS (zl c0 P) (cmb s (scl m (ncb (fun d => if a.testBit (d + 1) = true then SM a.testBit (hld wk z P B) (rkf sf P B) (zf c0 P (P - (p + 1))) (chg c p (d + 1)) else sz) 10))) ways' rank' kept' ∧ ∀ i, i < (zl c0 p).length → tried' i = tried i := by
  intro n
  induction n with
  | zero => intro i ways rank tried kept h1 h2; omega
  | succ n ih =>
    intro i ways rank tried kept h1 h2 hk htr
    rw [f_X4_tryCounts_3, q_10]
    by_cases e : i = 10
    · subst e
      rw [if_pos (ilt (by omega) (by omega))]
      exact ⟨_, _, _, _, rfl, hk, fun i _ => rfl⟩
    · rw [if_neg (inlt (by omega) (by omega)), al_bit ha (by omega), nI_p1]
      cases hb : a.testBit (i + 1) with
      | false =>
        rw [if_neg (show ¬ false = true by decide), if_pos (show nI 0 = 0 from rfl)]
        refine ih (i + 1) ways rank tried kept (by omega) (by omega) ?_ htr
        rw [ncb, hb, if_neg (show ¬ false = true by decide), cmb_sz]
        exact hk
      | true =>
        rw [if_pos rfl, if_neg (show ¬ nI 1 = 0 by decide), inB_t hj4 (by decide), ck_t, nI_add, nI_p1, nI_p1, ix_nI (show (zl c0 p).length < 2 ^ 31 by omega)]
        have heq : ∀ q, q < p → c q = chg c p (i + 1) q := fun q hq => by unfold chg; rw [if_neg (by omega)]
        have hcp : chg c p (i + 1) p = i + 1 := by unfold chg; rw [if_pos rfl]
        have hV' := VS_alive (VS_cong hV heq) hal hp hP (by rw [hcp]; omega)
        have hO' := OS_next (OS_cong hO heq) (VS_cong hV heq) hp hP
        rw [hcp] at hV' hO'
        have hgt : ∀ V' O', VS (chg c p (i + 1)) P B (p + 1) V' → OS (chg c p (i + 1)) P B (p + 1) O' → GT c0 (chg c p (i + 1)) P B (p + 1) V' O' (upd tried (zl c0 p).length (nI (i + 1))) := fun V' O' v o =>
          ⟨fun q hq => by unfold chg; rw [if_neg (by omega)]; exact hsame q (by omega), fun q hq => by
            unfold chg
            by_cases eq : q = p
            · rw [if_pos eq]; omega
            · rw [if_neg eq]; exact hlow q (by omega), tr_next h0 htr, v, o⟩
        have fin : ∀ V' O', VS (chg c p (i + 1)) P B (p + 1) V' → OS (chg c p (i + 1)) P B (p + 1) O' → ∃ ways' rank' tried' kept', Option.bind (G (nI (p + 1)) (nI ((zl c0 p).length + 1)) (lN V') (lN O') (lN Q) (nI m) (nI P) (nI B) (nI a) (nI l) (nI (mny a)) (nI wk) zi (b01 sf) ways rank (upd tried (zl c0 p).length (nI (i + 1))) kept ct) (fun r => f_X4_tryCounts_3 G (nI p) (nI (zl c0 p).length) (lN V) (lN O) (lN Q) (nI m) (nI P) (nI B) (nI a) (nI l) (nI (mny a)) (nI wk) zi (b01 sf) ct n (nI (i + 1 + 1)) r.1 r.2.1 r.2.2.1 r.2.2.2) = some (ways', rank', tried', kept') ∧
            KS (zl c0 P) (cmb s (scl m (ncb (fun d => if a.testBit (d + 1) = true then SM a.testBit (hld wk z P B) (rkf sf P B) (zf c0 P (P - (p + 1))) (chg c p (d + 1)) else sz) 10))) ways' rank' kept' ∧ ∀ i, i < (zl c0 p).length → tried' i = tried i := by
          intro V' O' v o
          obtain ⟨w1, r1, t1, k1, g1, g2, g3⟩ := hG (p + 1) (chg c p (i + 1)) V' O' Q _ m ways rank _ kept (by omega) hdd (hgt V' O' v o) (QS_cong hQ heq) hk
          rw [len_next h0] at g1 g3
          rw [g1, bd_s]
          dsimp only
          have ht1 : ∀ i, i < (zl c0 p).length → t1 i = tried i := fun x hx => by
            rw [g3 x (by omega), upd_at, if_neg (by omega)]
          obtain ⟨w2, r2, t2, k2, f1, f2, f3⟩ := ih (i + 1) w1 r1 t1 k1 (by omega) (by omega) (by
            rw [ncb, hb, if_pos rfl, scl_cmb, ← cmb_assoc]; exact g2) (fun x o hx => by
            rw [ht1 x (List.getElem?_eq_some_iff.mp hx).1]; exact htr x o hx)
          exact ⟨w2, r2, t2, k2, f1, f2, fun x hx => by rw [f3 x hx, ht1 x hx]⟩
        by_cases e2 : p + (i + 1) < P
        · rw [if_pos e2] at hV'
          rw [if_neg (fun x => by omega)] at hO'
          rw [if_neg (inle e2 (by omega)), shl_1 (by omega), fb_orL]
          exact fin _ _ hV' hO'
        · rw [if_neg e2] at hV'
          rw [if_pos ⟨hal, by omega⟩] at hO'
          rw [if_pos (ile (by omega) (by omega)), shl_1 (by omega), fb_orL]
          exact fin _ _ hV' hO'
end GO
