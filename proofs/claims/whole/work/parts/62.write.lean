section WR
variable {c0 : Nat → Nat} {P B a l wk z : Nat} {zi : Int32} {sf : Bool} {ct : Nat → Int32}
theorem s_goOn4 (hP : P ≤ 40) (hB1 : 1 ≤ B) (hB : B ≤ P) (ha : a < 2048) (hct : AR ct c0 P) (hc10 : ∀ q, q < P → c0 q ≤ 10) (hl4 : (zl c0 P).length ≤ 4) (hwk : wk ≤ 3) (hz : wk = 3 → zi = nI z ∧ z < P) (hsf : sf = true → wk = 0)
    (hl1 : 1 ≤ l) (hl10 : l ≤ 10) (hal : a.testBit l = true) (hlm : ∀ d, d < l → a.testBit d = false) : ∀ d, GSp c0 P B a l wk z zi sf ct (f_X4_goOn d) d := by
  intro d
  induction d with
  | zero => intro p c V O Q s m ways rank tried kept h1 h2; omega
  | succ d ih =>
    intro p c V O Q s m ways rank tried kept h1 h2 hgt hQ hk
    rw [f_X4_goOn, f_X4_goOn_b]
    exact s_go_21 ih hP hB1 hB ha hct hc10 hl4 hwk hz hsf hl1 hl10 hal hlm FU p c V O Q s m ways rank tried kept h1 (FU_ge (by omega)) (by omega) hgt hQ hk
theorem AR_cpy {f g : Nat → Int32} {c : Nat → Nat} {n : Nat} (h : AR f c n) (hn : n ≤ 40) : AR (va_cpy f g (ix (0 : Int32)) (ix (0 : Int32)) (ix (40 : Int32))) c n := fun i hi => by
  have e : va_cpy f g 0 0 40 (0 + i) = f i := cpy_in (show i < 40 by omega)
  rw [Nat.zero_add] at e
  exact Eq.trans e (h i hi)
theorem s_seek (hP : P ≤ 40) (hB1 : 1 ≤ B) (hB10 : B ≤ 10) (hB : B ≤ P) (ha : a < 2048) (ha0 : a ≠ 0) (hb0 : a.testBit 0 = false) (hct : AR ct c0 P) (hc10 : ∀ q, q < P → c0 q ≤ 10) (hl4 : (zl c0 P).length ≤ 4) (hwk : wk ≤ 3) (hz : wk = 3 → zi = nI z ∧ z < P) (hsf : sf = true → wk = 0) (cx tried kept : Nat → Int32) :
    ∃ e1 e2 e3 e4 e5 e6 e7 e8 ways rank cx' tried' kept', f_X4_seek (nI a) (nI wk) zi (b01 sf) (nI P) (nI B) ct cx tried kept = some (e1, e2, e3, e4, e5, e6, e7, e8, ways, rank, cx', tried', kept') ∧ KS (zl c0 P) (SM a.testBit (hld wk z P B) (rkf sf P B) (zl c0 P) c0) ways rank kept' := by
  obtain ⟨x, hx⟩ : ∃ x, a.testBit x = true := Classical.byContradiction (fun hno => ha0 (Nat.eq_of_testBit_eq (fun i => by
    rw [Nat.zero_testBit]
    cases h : a.testBit i with
    | false => rfl
    | true => exact absurd ⟨i, h⟩ hno)))
  have hx11 : x < 11 := by
    rcases Nat.lt_or_ge x 11 with h | h
    · exact h
    · rw [Nat.testBit_lt_two_pow (Nat.lt_of_lt_of_le ha (Nat.pow_le_pow_right (n := 2) (by decide) h))] at hx; cases hx
  obtain ⟨f1, f2, f3, f4⟩ := fpp_spec (f := a.testBit) 11 0 x (Nat.zero_le _) (by omega) hx
  generalize fpp a.testBit 11 0 = l at f1 f2 f3 f4
  have hl1 : 1 ≤ l := by
    rcases Nat.eq_zero_or_pos l with e | e
    · rw [e, hb0] at f1; cases f1
    · exact e
  have hlb : f_X5_leastBit (nI a).toInt64 = some (nI l) := by
    rw [nI_l (by omega)]
    exact s_leastBit (Nat.lt_trans ha (by decide)) f1 (fun i hi => f4 i (Nat.zero_le _) hi)
  have hB3 : 1 ≤ (2 : Nat) ^ B := Nat.pow_pos (by decide)
  have hsub : lN (2 ^ B) - (1 : Int64) = lN (2 ^ B - 1) := by
    have : lN (2 ^ B) = lN (2 ^ B - 1) + lN 1 := by rw [lN_add, Nat.sub_add_cancel hB3]
    rw [this]
    exact Int64.add_sub_cancel _ _
  have hzl0 : zl c0 0 = [] := rfl
  obtain ⟨w1, r1, t1, k1, g1, g2, g3⟩ := s_goOn4 (sf := sf) (zi := zi) hP hB1 hB ha (AR_cpy (g := cx) hct hP) hc10 hl4 hwk hz hsf hl1 (show l ≤ 10 by omega) f1 (fun d hd => f4 d (Nat.zero_le _) hd) 8 0 c0 (2 ^ B - 1) 0 0 sz 1 (0 : Int32) (40 : Int32) tried kept (Nat.zero_le _) (by rw [Nat.sub_zero, zf_all]; omega)
    ⟨fun _ _ => rfl, fun q hq => by omega, fun i o h => by rw [hzl0] at h; simp at h, VS_start hP hB, OS_start⟩ QS_start ⟨rfl, Or.inl ⟨rfl, rfl⟩⟩
  have g1' : f_X4_goOn 8 (0 : Int32) (0 : Int32) (lN (2 ^ B - 1)) (0 : Int64) (0 : Int64) (1 : Int32) (nI P) (nI B) (nI a) (nI l) (nI (mny a)) (nI wk) zi (b01 sf) (0 : Int32) (40 : Int32) tried kept (va_cpy ct cx (ix (0 : Int32)) (ix (0 : Int32)) (ix (40 : Int32))) = _ := g1
  rw [f_X4_seek, hlb, bd_s, s_many4 ha hb0, bd_s, isB_b, ck_t, shl_1 (by omega), hsub, g1', bd_s]
  refine ⟨_, _, _, _, _, _, _, _, _, _, _, _, _, rfl, ?_⟩
  rw [Nat.sub_zero, zf_all, sz_cmb] at g2
  have : ∀ S : SS, scl 1 S = S := fun S => by unfold scl; rw [Nat.one_mul]
  rw [this] at g2
  exact g2
end WR
