/-! ===== fits and drawn: the class's search ===== -/
def w1 (w : Nat → Nat) (d : Nat) : Nat := if w d = 0 then 0 else 1
def u1 (w : Nat → Nat) (_ d : Nat) : Nat := w1 w d
def u2 (w : Nat → Nat) (_ d : Nat) : Nat := w d
def u3 (w : Nat → Nat) (s a k d : Nat) : Nat := if k = s then (if d = a then w d else 0) else w d
theorem w1_le (w : Nat → Nat) (d : Nat) : w1 w d ≤ w d ∧ w1 w d ≤ 1 := by
  unfold w1
  by_cases e : w d = 0
  · rw [if_pos e]; omega
  · rw [if_neg e]; omega
theorem u3_le (w : Nat → Nat) (s a k d : Nat) : u3 w s a k d ≤ w d := by
  unfold u3
  repeat' split
  all_goals omega
abbrev GTy := Int32 → Int32 → Int64 → Int64 → Int32 → Int32 → Int32 → Int32 → Int32 → Int32 → Int32 → Int64 → Int64 → (Nat → Int32) → (Nat → Int32) → (Nat → Int32) → (Nat → Int32) → Option (Int32 × Int64 × Int64 × (Nat → Int32))
def RS (f wg ak ways wd wa t1 t2 t3 : Nat) (needs : Nat → Int32) : Option (Int32 × Int64 × Int64 × (Nat → Int32)) := some (nI (ways + f * t1), lN (wd + wg * t2), lN (wa + ak * t3), needs)
theorem RS_0 {f wg ak ways wd wa t1 t2 t3 : Nat} {needs : Nat → Int32} (h1 : t1 = 0) (h2 : t2 = 0) (h3 : t3 = 0) : some (nI ways, lN wd, lN wa, needs) = RS f wg ak ways wd wa t1 t2 t3 needs := by
  unfold RS
  rw [h1, h2, h3, Nat.mul_zero, Nat.mul_zero, Nat.mul_zero, Nat.add_zero, Nat.add_zero, Nat.add_zero]
/-- what stands behind the loop over the counts -/
def t78 (G : GTy) (p1 p2 p3 : Int32) (p4 p5 : Int64) (mn pl W M aS aC : Int32) (wt sps rts : Nat → Int32) (v8 v10 v11 v12 ways : Int32) (wd wa : Int64) (needs : Nat → Int32) : Option (Int32 × Int64 × Int64 × (Nat → Int32)) :=
  if v10 = 0 then some (ways, wd, wa, needs)
  else if v8 = 0 then
    if v8 = 0 then f_X1_leadTo_206 G p1 p2 p3 p4 p5 mn pl W M aS aC wt sps rts v8 v10 v11 v12 (-1 : Int32) ways wd wa needs
    else ck (inB p2 5) (ck (inB p1 5) (f_X1_leadTo_206 G p1 p2 p3 p4 p5 mn pl W M aS aC wt sps rts v8 v10 v11 v12 (-1 : Int32) ways wd wa (upd needs (ix p1) (needs (ix p2)))))
  else ck (inB p1 5) (
    if v8 = 0 then f_X1_leadTo_206 G p1 p2 p3 p4 p5 mn pl W M aS aC wt sps rts v8 v10 v11 v12 (needs (ix p1)) ways wd wa needs
    else ck (inB p2 5) (f_X1_leadTo_206 G p1 p2 p3 p4 p5 mn pl W M aS aC wt sps rts v8 v10 v11 v12 (needs (ix p1)) ways wd wa (upd needs (ix p1) (needs (ix p2)))))
section LD
variable {c0 w : Nat → Nat} {P s a : Nat} {wt sps rts : Nat → Int32} {aS aC : Int32}
def SL (c0 : Nat → Nat) (P : Nat) (u : Nat → Nat → Nat) (k gv i : Nat) : Nat := fb_sm (fun d => if rby c0 P (sp c0 P k) (d + 1) = gv then u k (d + 1) else 0) i
theorem SL_succ (u : Nat → Nat → Nat) (k gv i : Nat) : SL c0 P u k gv (i + 1) = SL c0 P u k gv i + (if rby c0 P (sp c0 P k) (i + 1) = gv then u k (i + 1) else 0) := rfl
theorem s_lead78 (G : GTy) (p1 p3 : Int32) (p4 p5 : Int64) (mn W M : Int32) (hP : P ≤ 40) (hz : (zl c0 P).length ≤ 5) (hw : WG wt w) {k : Nat} (hk : k < (zl c0 P).length) (hsp : sps k = nI (sp c0 P k)) (hrt : AR rts (rt c0 P) P) (haS : nI k = aS ↔ k = s) (haC : k = s → aC = nI a ∧ a ≤ 10) (v8 : Int32) {gv : Nat} (hgv : gv < 45) (ways : Int32) (wd wa : Int64) (needs : Nat → Int32) : ∀ (n i : Nat), i ≤ 10 → 10 - i < n →
    f_X1_leadTo_78 G p1 (nI k) p3 p4 p5 mn (nI P) W M aS aC wt sps rts n v8 (nI gv) (nI (SL c0 P (u1 w) k gv i)) (nI (SL c0 P (u2 w) k gv i)) (nI (SL c0 P (u3 w s a) k gv i)) (nI (i + 1)) ways wd wa needs
      = t78 G p1 (nI k) p3 p4 p5 mn (nI P) W M aS aC wt sps rts v8 (nI (SL c0 P (u1 w) k gv 10)) (nI (SL c0 P (u2 w) k gv 10)) (nI (SL c0 P (u3 w s a) k gv 10)) ways wd wa needs := by
  obtain ⟨s1, s2, s3⟩ := sp_in hk
  intro n
  induction n with
  | zero => intro i h1 h2; omega
  | succ n ih =>
    intro i h1 h2
    rw [f_X1_leadTo_78]
    by_cases e : i = 10
    · subst e
      rw [if_pos (show (10 : Int32) < nI (10 + 1) by decide)]
      rfl
    · have hwd := hw.1 (i + 1) (by omega) (by omega)
      have ih' := ih (i + 1) (by omega) (by omega)
      have hroot := s_rootBy (c0 := c0) (rts := rts) (d := i + 1) hP s1 (by omega) (fun h => hrt _ h)
      have hr45 := rby_lt (c0 := c0) (d := i + 1) s1 hP hz
      rw [SL_succ, SL_succ, SL_succ] at ih'
      rw [if_neg (show ¬ (10 : Int32) < nI (i + 1) from inlt (a := 10) (by omega) (by omega)), inB_t (by omega) (by omega), ck_t, ix_nI (by omega), hwd.1, nI_p1]
      by_cases e0 : w (i + 1) = 0
      · have z1 : u1 w k (i + 1) = 0 := by unfold u1 w1; rw [if_pos e0]
        have z2 : u2 w k (i + 1) = 0 := e0
        have z3 : u3 w s a k (i + 1) = 0 := by have := u3_le w s a k (i + 1); omega
        rw [z1, z2, z3, ite_self, Nat.add_zero, Nat.add_zero, Nat.add_zero] at ih'
        rw [if_pos ((nI_le0 (by omega)).mpr e0)]
        exact ih'
      · have z1 : u1 w k (i + 1) = 1 := by unfold u1 w1; rw [if_neg e0]
        have z2 : u2 w k (i + 1) = w (i + 1) := rfl
        rw [if_neg (fun q => e0 ((nI_le0 (by omega)).mp q)), inB_t (by omega) (by omega), ck_t, ix_nI (by omega), hsp, hroot, bd_s]
        by_cases er : rby c0 P (sp c0 P k) (i + 1) = gv
        · rw [if_pos er, if_pos er, if_pos er, z1, z2] at ih'
          rw [if_pos (by rw [er]), nI_p1, nI_add]
          by_cases es : k = s
          · obtain ⟨ha1, ha2⟩ := haC es
            rw [if_pos (haS.mpr es), ha1]
            unfold u3 at ih'
            rw [if_pos es] at ih'
            by_cases ea : i + 1 = a
            · rw [if_pos ea] at ih'
              rw [if_pos (by rw [ea]), nI_add]
              rw [ha1] at ih'
              exact ih'
            · rw [if_neg ea] at ih'
              rw [if_neg (ine ea (by omega) (by omega)), q_0, nI_add]
              rw [ha1] at ih'
              exact ih'
          · have z3 : u3 w s a k (i + 1) = w (i + 1) := by unfold u3; rw [if_neg es]
            rw [z3] at ih'
            rw [if_neg (fun q => es (haS.mp q)), nI_add]
            exact ih'
        · rw [if_neg er, if_neg er, if_neg er, Nat.add_zero, Nat.add_zero, Nat.add_zero] at ih'
          rw [if_neg (ine er (by omega) (by omega))]
          exact ih'
theorem SL_le {u : Nat → Nat → Nat} {v : Nat → Nat} {k gv : Nat} (h : ∀ d, d < 10 → u k (d + 1) ≤ v (d + 1)) : SL c0 P u k gv 10 ≤ SW v := by
  unfold SL SW
  apply fb_sm_le
  intro d hd
  by_cases e : rby c0 P (sp c0 P k) (d + 1) = gv
  · rw [if_pos e]; exact h d hd
  · rw [if_neg e]; omega
theorem SL_zero {u : Nat → Nat → Nat} {k gv : Nat} (h : SL c0 P (u1 w) k gv 10 = 0) (hu : ∀ d, d < 10 → u k (d + 1) ≤ w (d + 1)) : SL c0 P u k gv 10 = 0 := by
  unfold SL at h ⊢
  have h1 := fb_sm_zero h
  apply sm_none
  intro d hd
  have h2 := h1 d hd
  have h3 := hu d hd
  by_cases e : rby c0 P (sp c0 P k) (d + 1) = gv
  · rw [if_pos e] at h2 ⊢
    unfold u1 w1 at h2
    by_cases e0 : w (d + 1) = 0
    · omega
    · rw [if_neg e0] at h2; omega
  · rw [if_neg e]
/-- what the search on from the next open place tells -/
def GS (c0 : Nat → Nat) (P : Nat) (w : Nat → Nat) (wt sps rts : Nat → Int32) (aS aC : Int32) (k : Nat) (T1 T2 T3 : (Nat → Nat) → Nat) (G : GTy) : Prop :=
  ∀ (f wg ak ways wd wa : Nat) (nd : Nat → Nat) (needs : Nat → Int32), ND c0 P nd needs →
    G (nI k) (nI f) (lN wg) (lN ak) (nI (zl c0 P).length) (nI P) (nI (SW w)) (nI (SW (w1 w))) aS aC (nI ways) (lN wd) (lN wa) needs wt sps rts = RS f wg ak ways wd wa (T1 nd) (T2 nd) (T3 nd) needs
theorem s_206 {G : GTy} {k : Nat} {T1 T2 T3 : (Nat → Nat) → Nat} (hG : GS c0 P w wt sps rts aS aC (k + 1) T1 T2 T3 G) (p1 : Int32) (f wg ak ways wd wa b1 b2 b3 : Nat) (hb2 : b2 ≤ 12) (hb3 : b3 ≤ 12) (v8 v13 : Int32) {nd : Nat → Nat} {needs : Nat → Int32} (hn : ND c0 P nd needs) :
    f_X1_leadTo_206 G p1 (nI k) (nI f) (lN wg) (lN ak) (nI (zl c0 P).length) (nI P) (nI (SW w)) (nI (SW (w1 w))) aS aC wt sps rts v8 (nI b1) (nI b2) (nI b3) v13 (nI ways) (lN wd) (lN wa) needs
      = if v8 = 0 then RS f wg ak ways wd wa (b1 * T1 nd) (b2 * T2 nd) (b3 * T3 nd) needs else ck (inB p1 5) (RS f wg ak ways wd wa (b1 * T1 nd) (b2 * T2 nd) (b3 * T3 nd) (upd needs (ix p1) v13)) := by
  rw [f_X1_leadTo_206, nI_p1, pk_mul, nI_l (by omega), nI_l (by omega), lN_mul, lN_mul, hG _ _ _ _ _ _ nd needs hn]
  unfold RS
  rw [bd_s]
  dsimp only
  rw [Nat.mul_assoc, Nat.mul_assoc, Nat.mul_assoc]
theorem upd_back (f : Nat → Int32) (t : Nat) (x : Int32) : upd (upd f t x) t (f t) = f := by
  funext j
  rw [upd_at, upd_at]
  by_cases e : j = t
  · rw [if_pos e, e]
  · rw [if_neg e, if_neg e]
theorem s_leadTo {G : GTy} (hP : P ≤ 40) (hz : (zl c0 P).length ≤ 5) (hw : WG wt w) {k m : Nat} (hkm : k + 1 + m = (zl c0 P).length) (hsp : sps k = nI (sp c0 P k)) (hrt : AR rts (rt c0 P) P) (haS : nI k = aS ↔ k = s) (haC : k = s → aC = nI a ∧ a ≤ 10) {T1 T2 T3 : (Nat → Nat) → Nat} (hG : GS c0 P w wt sps rts aS aC (k + 1) T1 T2 T3 G)
    (f wg ak ways wd wa : Nat) {nd : Nat → Nat} {needs : Nat → Int32} (hn : ND c0 P nd needs) (h0 : nd k ≠ 0) {g : Nat} (hg : g ≤ m) :
    f_X1_leadTo G (nI (k + 1 + g)) (nI k) (nI f) (lN wg) (lN ak) (nI (zl c0 P).length) (nI P) (nI (SW w)) (nI (SW (w1 w))) aS aC (nI ways) (lN wd) (lN wa) needs wt sps rts
      = RS f wg ak ways wd wa (AU c0 P (u1 w) m k (nd k) g * VN T1 m k nd g) (AU c0 P (u2 w) m k (nd k) g * VN T2 m k nd g) (AU c0 P (u3 w s a) m k (nd k) g * VN T3 m k nd g) needs := by
  have hk : k < (zl c0 P).length := by omega
  have hw12 := hw.2.2
  have hndk := hn.2 k
  have hneedk : needs k = nI (nd k - 1) := by
    rw [hn.1 k hk]; unfold dn_; rw [if_neg h0]
  have run : ∀ (v8 : Int32) (gv : Nat), gv < 45 → _ := fun v8 gv hgv => s_lead78 (s := s) (a := a) G (nI (k + 1 + g)) (nI f) (lN wg) (lN ak) (nI (zl c0 P).length) (nI (SW w)) (nI (SW (w1 w))) hP hz hw hk hsp hrt haS haC v8 hgv (nI ways) (lN wd) (lN wa) needs FU 0 (by omega) (FU_ge (by omega))
  have run' : ∀ (v8 : Int32) (gv : Nat), gv < 45 → f_X1_leadTo_78 G (nI (k + 1 + g)) (nI k) (nI f) (lN wg) (lN ak) (nI (zl c0 P).length) (nI P) (nI (SW w)) (nI (SW (w1 w))) aS aC wt sps rts FU v8 (nI gv) (0 : Int32) (0 : Int32) (0 : Int32) (1 : Int32) (nI ways) (lN wd) (lN wa) needs = _ := run
  rw [f_X1_leadTo]
  by_cases e : g < m
  · -- to another open place
    have hgl : k + 1 + g < (zl c0 P).length := by omega
    have hb2 : AU c0 P (u2 w) m k (nd k) g ≤ 12 := Nat.le_trans (SL_le (v := w) (fun d _ => Nat.le_refl _)) hw12
    have hb3 : AU c0 P (u3 w s a) m k (nd k) g ≤ 12 := Nat.le_trans (SL_le (v := w) (fun d _ => u3_le _ _ _ _ _)) hw12
    have hb1 : AU c0 P (u1 w) m k (nd k) g ≤ 12 := Nat.le_trans (SL_le (v := w) (fun d _ => (w1_le _ _).1)) hw12
    have hgr : gr m k (nd k) g = 40 + (k + 1 + g) := by unfold gr; rw [if_pos e]
    have hndt := hn.2 (k + 1 + g)
    rw [if_neg (inle hgl (by omega)), f_X1_leadTo_13, if_neg (show ¬ (1 : Int32) = 0 by decide), inB_t (by omega) (by omega), ck_t, ix_nI (by omega), hn.1 _ hgl]
    have go : nd (k + 1 + g) = 0 ∨ nd (k + 1 + g) = nd k → f_X1_leadTo_46 G (nI (k + 1 + g)) (nI k) (nI f) (lN wg) (lN ak) (nI (zl c0 P).length) (nI P) (nI (SW w)) (nI (SW (w1 w))) aS aC wt sps rts (1 : Int32) (nI ways) (lN wd) (lN wa) needs = RS f wg ak ways wd wa (AU c0 P (u1 w) m k (nd k) g * VN T1 m k nd g) (AU c0 P (u2 w) m k (nd k) g * VN T2 m k nd g) (AU c0 P (u3 w s a) m k (nd k) g * VN T3 m k nd g) needs := by
      intro hor
      have e40 : (40 : Int32) + nI (k + 1 + g) = nI (40 + (k + 1 + g)) := nI_add 40 _
      rw [f_X1_leadTo_46, if_neg (show ¬ (1 : Int32) = 0 by decide), e40, run' (1 : Int32) (40 + (k + 1 + g)) (by omega), ← hgr]
      have a1 : SL c0 P (u1 w) k (gr m k (nd k) g) 10 = AU c0 P (u1 w) m k (nd k) g := rfl
      have a2 : SL c0 P (u2 w) k (gr m k (nd k) g) 10 = AU c0 P (u2 w) m k (nd k) g := rfl
      have a3 : SL c0 P (u3 w s a) k (gr m k (nd k) g) 10 = AU c0 P (u3 w s a) m k (nd k) g := rfl
      have v1 : ∀ T : (Nat → Nat) → Nat, VN T m k nd g = T (chg nd (k + 1 + g) (nd k)) := fun T => by unfold VN; rw [if_pos e, if_pos hor]
      rw [v1, v1, v1, t78]
      by_cases ez : AU c0 P (u1 w) m k (nd k) g = 0
      · have ez2 : AU c0 P (u2 w) m k (nd k) g = 0 := SL_zero ez (fun d _ => Nat.le_refl _)
        have ez3 : AU c0 P (u3 w s a) m k (nd k) g = 0 := SL_zero ez (fun d _ => u3_le _ _ _ _ _)
        rw [a1, ez, if_pos (show nI 0 = 0 from rfl)]
        exact RS_0 (Nat.zero_mul _) (by rw [ez2, Nat.zero_mul]) (by rw [ez3, Nat.zero_mul])
      · have hn2 : ND c0 P (chg nd (k + 1 + g) (nd k)) (upd needs (k + 1 + g) (needs k)) := by
          refine ⟨fun j hj => ?_, fun j => ?_⟩
          · rw [upd_at]
            unfold chg
            by_cases e3 : j = k + 1 + g
            · rw [if_pos e3, if_pos e3]; exact hn.1 k hk
            · rw [if_neg e3, if_neg e3]; exact hn.1 j hj
          · unfold chg
            by_cases e3 : j = k + 1 + g
            · rw [if_pos e3]; exact hn.2 k
            · rw [if_neg e3]; exact hn.2 j
        rw [a1, a2, a3, if_neg (show ¬ nI (AU c0 P (u1 w) m k (nd k) g) = 0 by rw [q_0]; exact ine ez (by omega) (by omega)), if_neg (show ¬ (1 : Int32) = 0 by decide), inB_t (by omega) (by omega), ck_t, if_neg (show ¬ (1 : Int32) = 0 by decide), inB_t (by omega) (by omega), ck_t, ix_nI (show k + 1 + g < 2 ^ 31 by omega), ix_nI (show k < 2 ^ 31 by omega), s_206 hG _ _ _ _ _ _ _ _ _ _ hb2 hb3 _ _ hn2, if_neg (show ¬ (1 : Int32) = 0 by decide), inB_t (by omega) (by omega), ck_t, ix_nI (by omega), upd_back]
    by_cases e2 : nd (k + 1 + g) = 0
    · rw [if_pos ((dn_none _ (by omega)).mpr e2)]
      exact go (Or.inl e2)
    · rw [if_neg (fun q => e2 ((dn_none _ (by omega)).mp q)), inB_t (by omega) (by omega), ck_t, ix_nI (by omega), hn.1 k hk]
      by_cases e3 : nd (k + 1 + g) = nd k
      · rw [if_pos (by rw [e3])]
        exact go (Or.inr e3)
      · rw [if_neg (fun q => e3 ((dn_eq _ (by omega) _ (by omega)).mp q))]
        have v0 : ∀ T : (Nat → Nat) → Nat, VN T m k nd g = 0 := fun T => by
          unfold VN
          rw [if_pos e, if_neg]
          rintro (q | q)
          · exact e2 q
          · exact e3 q
        exact RS_0 (by rw [v0, Nat.mul_zero]) (by rw [v0, Nat.mul_zero]) (by rw [v0, Nat.mul_zero])
  · -- rightly out
    have eg : g = m := by omega
    subst eg
    have hb2 : AU c0 P (u2 w) g k (nd k) g ≤ 12 := Nat.le_trans (SL_le (v := w) (fun d _ => Nat.le_refl _)) hw12
    have hb3 : AU c0 P (u3 w s a) g k (nd k) g ≤ 12 := Nat.le_trans (SL_le (v := w) (fun d _ => u3_le _ _ _ _ _)) hw12
    have hb1 : AU c0 P (u1 w) g k (nd k) g ≤ 12 := Nat.le_trans (SL_le (v := w) (fun d _ => (w1_le _ _).1)) hw12
    have hgr : gr g k (nd k) g = nd k - 1 := by unfold gr; rw [if_neg (Nat.lt_irrefl _)]
    have v1 : ∀ T : (Nat → Nat) → Nat, VN T g k nd g = T nd := fun T => by unfold VN; rw [if_neg (Nat.lt_irrefl _)]
    rw [if_pos (ile (by omega) (by omega)), f_X1_leadTo_13, if_pos rfl, f_X1_leadTo_46, if_pos rfl, inB_t (by omega) (by omega), ck_t, ix_nI (by omega), hneedk, run' (0 : Int32) (nd k - 1) (by omega), ← hgr]
    have a1 : SL c0 P (u1 w) k (gr g k (nd k) g) 10 = AU c0 P (u1 w) g k (nd k) g := rfl
    have a2 : SL c0 P (u2 w) k (gr g k (nd k) g) 10 = AU c0 P (u2 w) g k (nd k) g := rfl
    have a3 : SL c0 P (u3 w s a) k (gr g k (nd k) g) 10 = AU c0 P (u3 w s a) g k (nd k) g := rfl
    rw [v1, v1, v1, t78]
    by_cases ez : AU c0 P (u1 w) g k (nd k) g = 0
    · have ez2 : AU c0 P (u2 w) g k (nd k) g = 0 := SL_zero ez (fun d _ => Nat.le_refl _)
      have ez3 : AU c0 P (u3 w s a) g k (nd k) g = 0 := SL_zero ez (fun d _ => u3_le _ _ _ _ _)
      rw [a1, ez, if_pos (show nI 0 = 0 from rfl)]
      exact RS_0 (Nat.zero_mul _) (by rw [ez2, Nat.zero_mul]) (by rw [ez3, Nat.zero_mul])
    · rw [a1, a2, a3, if_neg (show ¬ nI (AU c0 P (u1 w) g k (nd k) g) = 0 by rw [q_0]; exact ine ez (by omega) (by omega)), if_pos rfl, if_pos rfl, s_206 hG _ _ _ _ _ _ _ _ _ _ hb2 hb3 _ _ hn, if_pos rfl]
end LD
