/-! ===== fits and drawn: the class's search, whole ===== -/
section GG
variable {c0 w : Nat → Nat} {P s a : Nat} {wt sps rts : Nat → Int32} {aS aC : Int32}
theorem s_g108 {G : GTy} (hP : P ≤ 40) (hz : (zl c0 P).length ≤ 5) (hw : WG wt w) {k m : Nat} (hkm : k + 1 + m = (zl c0 P).length) (hsp : sps k = nI (sp c0 P k)) (hrt : AR rts (rt c0 P) P) (haS : nI k = aS ↔ k = s) (haC : k = s → aC = nI a ∧ a ≤ 10) {T1 T2 T3 : (Nat → Nat) → Nat} (hG : GS c0 P w wt sps rts aS aC (k + 1) T1 T2 T3 G)
    (f wg ak ways wd wa : Nat) {nd : Nat → Nat} {needs : Nat → Int32} (hn : ND c0 P nd needs) (h0 : nd k ≠ 0) : ∀ (n i : Nat), i ≤ m + 1 → m + 1 - i < n →
    f_X1_goOn_108 G (nI k) (nI f) (lN wg) (lN ak) (nI (zl c0 P).length) (nI P) (nI (SW w)) (nI (SW (w1 w))) aS aC wt sps rts n (nI (k + 1 + i))
      (nI (ways + f * fb_sm (fun g => AU c0 P (u1 w) m k (nd k) g * VN T1 m k nd g) i)) (lN (wd + wg * fb_sm (fun g => AU c0 P (u2 w) m k (nd k) g * VN T2 m k nd g) i)) (lN (wa + ak * fb_sm (fun g => AU c0 P (u3 w s a) m k (nd k) g * VN T3 m k nd g) i)) needs
      = RS f wg ak ways wd wa (fb_sm (fun g => AU c0 P (u1 w) m k (nd k) g * VN T1 m k nd g) (m + 1)) (fb_sm (fun g => AU c0 P (u2 w) m k (nd k) g * VN T2 m k nd g) (m + 1)) (fb_sm (fun g => AU c0 P (u3 w s a) m k (nd k) g * VN T3 m k nd g) (m + 1)) needs := by
  intro n
  induction n with
  | zero => intro i h1 h2; omega
  | succ n ih =>
    intro i h1 h2
    rw [f_X1_goOn_108]
    by_cases e : i = m + 1
    · subst e
      rw [if_pos (ilt (by omega) (by omega))]
      rfl
    · rw [if_neg (inlt (by omega) (by omega)), s_leadTo hP hz hw hkm hsp hrt haS haC hG f wg ak _ _ _ hn h0 (show i ≤ m by omega)]
      unfold RS
      rw [bd_s]
      dsimp only
      have ih' := ih (i + 1) (by omega) (by omega)
      have s1 : ∀ F : Nat → Nat, fb_sm F (i + 1) = fb_sm F i + F i := fun F => fb_sm_succ F i
      have s2 : ∀ A B D E : Nat, A + B * D + B * E = A + B * (D + E) := fun A B D E => by rw [Nat.mul_add, Nat.add_assoc]
      rw [s1, s1, s1] at ih'
      rw [nI_p1, s2, s2, s2]
      exact ih'
theorem sw_u1 (k : Nat) : fb_sm (fun d => u1 w k (d + 1)) 10 = SW (w1 w) := rfl
theorem sw_u2 (k : Nat) : fb_sm (fun d => u2 w k (d + 1)) 10 = SW w := rfl
theorem sw_u3 (k : Nat) (h1 : k = s → 1 ≤ a ∧ a ≤ 10) : fb_sm (fun d => u3 w s a k (d + 1)) 10 = if k = s then w a else SW w := by
  unfold u3
  by_cases e : k = s
  · rw [if_pos e]
    have h2 := h1 e
    rw [sm_one (i := a - 1) (by omega) (fun g hg hga => ?_)]
    · rw [if_pos e, show a - 1 + 1 = a by omega, if_pos rfl]
    · rw [if_pos e, if_neg (by omega)]
  · rw [if_neg e]
    unfold SW
    apply fb_sm_cong
    intro d _
    rw [if_neg e]
theorem s_goOnG (hP : P ≤ 40) (hz : (zl c0 P).length ≤ 5) (hw : WG wt w) (hsp : ∀ k, k < (zl c0 P).length → sps k = nI (sp c0 P k)) (hrt : AR rts (rt c0 P) P) (haS : ∀ k, k < 5 → (nI k = aS ↔ k = s)) (haC : s < 5 → aC = nI a ∧ 1 ≤ a ∧ a ≤ 10) : ∀ (m fu k : Nat), k + m = (zl c0 P).length → m < fu →
    GS c0 P w wt sps rts aS aC k (TN c0 P (u1 w) m k) (TN c0 P (u2 w) m k) (TN c0 P (u3 w s a) m k) (f_X1_goOn fu) := by
  intro m
  induction m with
  | zero =>
    intro fu k hk hfu f wg ak ways wd wa nd needs hn
    obtain ⟨n, rfl⟩ : ∃ n, fu = n + 1 := ⟨fu - 1, by omega⟩
    rw [f_X1_goOn, f_X1_goOn_b, if_neg (inlt (by omega) (by omega)), nI_add, lN_add, lN_add]
    unfold RS
    rw [TN, TN, TN, Nat.mul_one, Nat.mul_one, Nat.mul_one]
  | succ m ih =>
    intro fu k hk hfu f wg ak ways wd wa nd needs hn
    obtain ⟨n, rfl⟩ : ∃ n, fu = n + 1 := ⟨fu - 1, by omega⟩
    have hkl : k < (zl c0 P).length := by omega
    have hG := ih n (k + 1) (by omega) (by omega)
    have hndk := hn.2 k
    have hw12 := hw.2.2
    have haS' := haS k (by omega)
    have haC' : k = s → aC = nI a ∧ a ≤ 10 := fun q => ⟨(haC (by omega)).1, (haC (by omega)).2.2⟩
    rw [f_X1_goOn, f_X1_goOn_b, if_pos (ilt hkl (by omega)), inB_t (by omega) (by omega), ck_t, ix_nI (by omega), hn.1 k hkl]
    by_cases e0 : nd k = 0
    · rw [if_pos ((dn_none _ (by omega)).mpr e0)]
      have run : ∀ v : Nat, v ≤ 12 → f_X1_goOn_74 (f_X1_goOn n) (nI k) (nI f) (lN wg) (lN ak) (nI (zl c0 P).length) (nI P) (nI (SW w)) (nI (SW (w1 w))) aS aC wt sps rts (nI v) (nI ways) (lN wd) (lN wa) needs = RS f wg ak ways wd wa (SW (w1 w) * TN c0 P (u1 w) m (k + 1) nd) (SW w * TN c0 P (u2 w) m (k + 1) nd) (v * TN c0 P (u3 w s a) m (k + 1) nd) needs := by
        intro v hv
        rw [f_X1_goOn_74, nI_p1, pk_mul, nI_l (by omega), nI_l (by omega), lN_mul, lN_mul, hG _ _ _ _ _ _ nd needs hn]
        unfold RS
        rw [bd_s]
        dsimp only
        rw [Nat.mul_assoc, Nat.mul_assoc, Nat.mul_assoc]
      rw [TN, TN, TN, if_pos e0, if_pos e0, if_pos e0, sw_u1, sw_u2, sw_u3 k (fun q => (haC (by omega)).2)]
      by_cases es : k = s
      · have ha := haC (by omega)
        have hwa := hw.1 a ha.2.1 ha.2.2
        rw [if_pos (haS'.mpr es), if_pos es]
        have run2 := run (w a) (by omega)
        rw [ha.1] at run2 ⊢
        rw [inB_t (by omega) (by omega), ck_t, ix_nI (by omega), hwa.1]
        exact run2
      · rw [if_neg (fun q => es (haS'.mp q)), if_neg es]
        exact run (SW w) hw12
    · rw [if_neg (fun q => e0 ((dn_none _ (by omega)).mp q)), nI_p1, TN, TN, TN, if_neg e0, if_neg e0, if_neg e0]
      have := s_g108 hP hz hw (k := k) (m := m) (by omega) (hsp k hkl) hrt haS' haC' hG f wg ak ways wd wa hn e0 FU 0 (by omega) (FU_ge (by omega))
      rw [fb_sm_0, fb_sm_0, fb_sm_0, Nat.mul_zero, Nat.mul_zero, Nat.mul_zero, Nat.add_zero, Nat.add_zero, Nat.add_zero] at this
      exact this
/-- all sights hold -/
def seesB (P S : Nat) (fr ot : Nat → Nat) (x : Nat → Nat) : Bool := decide (∀ t, t < S → ou x P (fr t) = ot t)
theorem seesB_t {S : Nat} {fr ot x : Nat → Nat} : seesB P S fr ot x = true ↔ sees P S fr ot x := decide_eq_true_iff
theorem s_seekG_39 (aS0 aC0 : Int32) (S : Int32) (ct sf so : Nat → Int32) (hw : WG wt w) (mn pl W as1 ac1 wy : Int32) (wd wa : Int64) (sp0 nd0 rt0 : Nat → Int32) : ∀ (n i : Nat), i ≤ 10 → 10 - i < n →
    f_X1_seek_39 aS0 aC0 S ct sf so n (nI (i + 1)) mn pl W (nI (fb_sm (fun d => w1 w (d + 1)) i)) as1 ac1 wy wd wa wt sp0 nd0 rt0
     = Option.bind (f_X1_findSpots pl ct sp0 nd0) (fun r97 =>
      Option.bind (f_X1_findRoots r97.1 pl ct rt0) (fun r102 =>
      Option.bind (f_X1_takeNeeds S r102 sf so r97.2.2) (fun r107 =>
      if r107.1 = 0 then
        some (r97.1, pl, W, nI (SW (w1 w)), aS0, aC0, (0 : Int32), (0 : Int64), (0 : Int64), wt, r97.2.1, r107.2, r102)
      else
        Option.bind (f_X1_goOn 8 (0 : Int32) (1 : Int32) (1 : Int64) (1 : Int64) r97.1 pl W (nI (SW (w1 w))) aS0 aC0 (0 : Int32) (0 : Int64) (0 : Int64) r107.2 wt r97.2.1 r102) (fun r118 =>
        some (r97.1, pl, W, nI (SW (w1 w)), aS0, aC0, r118.1, r118.2.1, r118.2.2.1, wt, r97.2.1, r118.2.2.2, r102))))) := by
  intro n
  induction n with
  | zero => intro i h1 h2; omega
  | succ n ih =>
    intro i h1 h2
    rw [f_X1_seek_39]
    by_cases e : i = 10
    · subst e
      rw [if_pos (show (10 : Int32) < nI (10 + 1) by decide)]
      rfl
    · have hwd := hw.1 (i + 1) (by omega) (by omega)
      have ih' := ih (i + 1) (by omega) (by omega)
      rw [if_neg (show ¬ (10 : Int32) < nI (i + 1) from inlt (a := 10) (by omega) (by omega)), inB_t (by omega) (by omega), ck_t, ix_nI (by omega), hwd.1, nI_p1, nI_p1]
      rw [fb_sm_succ] at ih'
      by_cases e0 : w (i + 1) = 0
      · rw [show w1 w (i + 1) = 0 by unfold w1; rw [if_pos e0]] at ih'
        rw [if_pos ((nI_le0 (by omega)).mpr e0), q_0, nI_add]
        exact ih'
      · rw [show w1 w (i + 1) = 1 by unfold w1; rw [if_neg e0]] at ih'
        rw [if_neg (fun q => e0 ((nI_le0 (by omega)).mp q))]
        exact ih'
theorem WG_cpy {wx : Nat → Int32} (hw : WG wt w) : WG (va_cpy wt wx (ix (0 : Int32)) (ix (0 : Int32)) (ix (11 : Int32))) w := ⟨fun d h1 h2 => by
  have e : va_cpy wt wx 0 0 11 (0 + d) = wt d := cpy_in (show d < 11 by omega)
  rw [Nat.zero_add] at e
  exact ⟨Eq.trans e (hw.1 d h1 h2).1, (hw.1 d h1 h2).2⟩, hw.2⟩
theorem s_seekG {ct : Nat → Int32} (hP1 : 1 ≤ P) (hP : P ≤ 40) (hz : (zl c0 P).length ≤ 5) (hw : WG wt w) (hct : AR ct c0 P) (hc10 : ∀ q, q < P → c0 q ≤ 10) {S : Nat} (hS : S ≤ 6) {fr ot : Nat → Nat} {sf so : Nat → Int32} (hsf : ∀ i, i < S → fr i < P ∧ ot i < P ∧ sf i = nI (fr i) ∧ so i = nI (ot i))
    (haS : ∀ k, k < 5 → (nI k = aS ↔ k = s)) (haC : s < 5 → aC = nI a ∧ 1 ≤ a ∧ a ≤ 10) (mn as1 ac1 wy : Int32) (wd wa : Int64) (wx sp0 nd0 rt0 : Nat → Int32) :
    ∃ v1 v2 v3 v4 v5 v6 v9 v10 v11 v12, f_X1_seek aS aC mn as1 ac1 wy wd wa (nI P) (nI S) wt wx ct sp0 nd0 rt0 sf so
      = some (v1, v2, v3, v4, v5, v6, nI (nsu (seesB P S fr ot) (u1 w) (zl c0 P) 0 c0), lN (nsu (seesB P S fr ot) (u2 w) (zl c0 P) 0 c0), lN (nsu (seesB P S fr ot) (u3 w s a) (zl c0 P) 0 c0), v9, v10, v11, v12) := by
  have h32 := s_seekG_39 (w := w) aS aC (nI S) ct sf so (WG_cpy (wx := wx) hw) mn (nI P) (nI (SW w)) as1 ac1 wy wd wa sp0 nd0 rt0 FU 0 (by omega) (FU_ge (by omega))
  have h32' : f_X1_seek_39 aS aC (nI S) ct sf so FU (1 : Int32) mn (nI P) (nI (SW w)) (0 : Int32) as1 ac1 wy wd wa (va_cpy wt wx (ix (0 : Int32)) (ix (0 : Int32)) (ix (11 : Int32))) sp0 nd0 rt0 = _ := h32
  have hfs := s_findSpots_7 hP hct hc10 hz sp0 nd0 FU 0 (Nat.zero_le _) (FU_ge (by omega))
  have hfs' : f_X1_findSpots (nI P) ct sp0 nd0 = some (nI (zl c0 P).length, opf c0 sp0 P, ndf nd0 (zl c0 P).length) := by
    rw [f_X1_findSpots]
    refine Eq.trans ?_ hfs
    congr 1
  obtain ⟨ro, r1, r2⟩ := s_findRoots hP1 hP hct hc10 rt0
  have hcq : ∀ q, q < P → q ∉ zl c0 P → 1 ≤ c0 q ∧ c0 q ≤ 10 := fun q hq hn => by
    refine ⟨?_, hc10 q hq⟩
    rcases Nat.eq_zero_or_pos (c0 q) with e | e
    · exact absurd (zl_mem.mpr ⟨hq, e⟩) hn
    · exact e
  have hext : ∀ (ψ : (Nat → Nat) → Bool) (u : Nat → Nat → Nat), (∀ x, fw c0 P x → seesB P S fr ot x = ψ x) → nsu (seesB P S fr ot) u (zl c0 P) 0 c0 = nsu ψ u (zl c0 P) 0 c0 := by
    intro ψ u h
    refine nsu_ext (P := P) (Q := fun x => ∀ q, q < P → c0 q ≠ 0 → x q = c0 q) _ _ _ hcq ?_ (fun _ _ _ => rfl) (fun x h1 h2 => h x ⟨h1, h2⟩)
    intro x o d hx ho q hq h0
    unfold chg
    rw [if_neg (fun e => h0 (by rw [e]; exact (zl_mem.mp ho).2))]
    exact hx q hq h0
  obtain ⟨r, needs', k1, k2⟩ := s_takeNeeds_2 hP hz hS hsf r2 FU 0 (fun _ => 0) (ndf nd0 (zl c0 P).length) (Nat.zero_le _) (FU_ge (by omega)) ⟨fun j hj => by unfold ndf; rw [if_pos hj]; rfl, fun _ => Nat.zero_le _⟩ (fun x hx => by
    constructor
    · intro _ t ht; omega
    · intro _; rw [kpn_t]; intro j _ _ h; exact absurd rfl h)
  have k1' : f_X1_takeNeeds (nI S) ro sf so (ndf nd0 (zl c0 P).length) = some (r, needs') := k1
  rw [f_X1_seek, s5_weightOfAll hw.1, bd_s, h32', hfs', bd_s]
  dsimp only
  rw [r1, bd_s, k1', bd_s]
  dsimp only
  rcases k2 with ⟨rfl, k2⟩ | ⟨rfl, nd', k3, k4⟩
  · have hf : ∀ u, nsu (seesB P S fr ot) u (zl c0 P) 0 c0 = 0 := fun u => by
      rw [hext (fun _ => false) u (fun x hx => ?_), nsu_false _ _ _ (fun _ => rfl)]
      cases hh : seesB P S fr ot x with
      | false => rfl
      | true => exact absurd (seesB_t.mp hh) (k2 x hx)
    rw [if_pos rfl, hf, hf, hf]
    exact ⟨_, _, _, _, _, _, _, _, _, _, rfl⟩
  · have hg := s_goOnG (s := s) (a := a) (sps := opf c0 sp0 P) (rts := ro) hP hz (WG_cpy (wx := wx) hw) (fun k hk => opf_at k _ (sp_get hk)) r2 haS haC (zl c0 P).length 8 0 (by omega) (by omega) 1 1 1 0 0 0 nd' needs' k3
    have hg' : f_X1_goOn 8 (0 : Int32) (1 : Int32) (1 : Int64) (1 : Int64) (nI (zl c0 P).length) (nI P) (nI (SW w)) (nI (SW (w1 w))) aS aC (0 : Int32) (0 : Int64) (0 : Int64) needs' (va_cpy wt wx (ix (0 : Int32)) (ix (0 : Int32)) (ix (11 : Int32))) (opf c0 sp0 P) ro = _ := hg
    have hT : ∀ u, nsu (seesB P S fr ot) u (zl c0 P) 0 c0 = TN c0 P u (zl c0 P).length 0 nd' := fun u => by
      have h5 := TN_nsu (u := u) hP (zl c0 P).length 0 nd' c0 (by omega) (by rw [List.drop_zero]; exact hcq) (fun _ _ _ => rfl) k3.2
      rw [List.drop_zero] at h5
      rw [← h5]
      exact hext _ u (fun x hx => by rw [Bool.eq_iff_iff, k4 x hx, seesB_t])
    rw [if_neg (show ¬ (1 : Int32) = 0 by decide), hg', RS, bd_s]
    dsimp only
    rw [hT, hT, hT, Nat.zero_add, Nat.zero_add, Nat.zero_add, Nat.one_mul, Nat.one_mul, Nat.one_mul]
    exact ⟨_, _, _, _, _, _, _, _, _, _, rfl⟩
end GG
