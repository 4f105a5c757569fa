/-! ===== the law's loop: it answers 1 (written by wip/whole/gen_pure.py) ===== -/
theorem lp_if {q : Prop} [Decidable q] {x y r : Option Int32} (h1 : q → x = r) (h2 : ¬ q → y = r) : (if q then x else y) = r := by
  by_cases h : q
  · rw [if_pos h]; exact h1 h
  · rw [if_neg h]; exact h2 h
theorem lp_yes {q : Prop} [Decidable q] {x y r : Option Int32} (h : q) (e : x = r) : (if q then x else y) = r := by rw [if_pos h]; exact e
theorem lp_ck {b : Bool} {x r : Option Int32} (h : b = true) (e : x = r) : ck b x = r := by rw [h, ck_t]; exact e
theorem lp_bd {α : Type} {f : Option α} {a : α} {g : α → Option Int32} {r : Option Int32} (h : f = some a) (e : g a = r) : Option.bind f g = r := by rw [h]; exact e
theorem lp_neg : ∀ L, L < 4 → (nI L - (4 : Int32)).toInt < 0 := by decide
theorem lp_end {L i : Nat} (hL : L ≤ 256) (hi : i ≤ L + 3) (h : ¬ (Int32.ofNat L - (4 : Int32)) < nI i) : i + 4 ≤ L := by
  apply Classical.byContradiction
  intro h2
  apply h
  show nI L - (4 : Int32) < nI i
  by_cases h4 : L < 4
  · have h5 := lp_neg L h4
    rw [fa_lt, nI_toInt (show i < 2 ^ 31 by omega)]
    omega
  · have e : nI L - (4 : Int32) = nI (L - 4) := l_sub (j := 4) (by omega)
    rw [e]
    exact ilt (by omega) (by omega)
set_option maxHeartbeats 40000000 in
set_option maxRecDepth 100000 in
theorem law_pure (xs : Nat → Int32) {L : Nat} (hL : L ≤ 256) : ∀ (n i : Nat) (sg : Int32) (P : Int32) (B : Int32) (C : Int32) (A : Int32) (S : Int32) (op : Int32) (pd : Nat → Int32) (tx : Nat → Int32) (wt : Nat → Int32) (rp : Int32) (rb : Int32) (r1 : Nat → Int32) (r2 : Nat → Int32) (r3 : Nat → Int32) (r4 : Nat → Int32) (r5 : Nat → Int32) (m1 : Nat → Int32) (m2 : Nat → Int32) (m3 : Nat → Int32) (m4 : Nat → Int32) (l1 : Int64) (l2 : Int64) (nw : Nat → Int64) (nx : Nat → Int64) (e1 : Int32) (e2 : Int32) (e3 : Int32) (e4 : Int32) (e5 : Int32) (e6 : Int32) (e7 : Int32) (e8 : Int32) (e9 : Int32) (e10 : Int32) (cx : Nat → Int32) (tr : Nat → Int32) (kp : Nat → Int32) (sf : Nat → Int32) (so : Nat → Int32) (sight : Nat → Int32) (g1 : Int32) (g2 : Int32) (g3 : Int32) (g4 : Int32) (g5 : Int32) (g6 : Int32) (g7 : Int32) (g8 : Int64) (g9 : Int64) (gx : Nat → Int32) (gs : Nat → Int32) (gn : Nat → Int32) (gt : Nat → Int32) (mp : Nat → Int32) (xp : Nat → Int32) (P0 : Int32) (B0 : Int32) (C0 : Int32) (A0 : Int32) (S0 : Int32) (K0 : Int32) (P1 : Int32) (B1 : Int32) (C1 : Int32) (A1 : Int32) (S1 : Int32) (K1 : Int32) (tx0 : Nat → Int32) (wt0 : Nat → Int32) (sf0 : Nat → Int32) (so0 : Nat → Int32) (tx1 : Nat → Int32) (wt1 : Nat → Int32) (sf1 : Nat → Int32) (so1 : Nat → Int32) (im : Nat → Int32) (ik : Nat → Int32), i ≤ L + 3 → L + 4 < i + n → PD sg pd → TI P B C A S tx wt sf so → SI sight sf so → II 0 im ik P0 B0 C0 A0 S0 K0 tx0 wt0 sf0 so0 → II 1 im ik P1 B1 C1 A1 S1 K1 tx1 wt1 sf1 so1 → f_L_law_18 xs L n (nI i) sg sg P B C A S op pd pd P B C A S tx tx wt wt rp rb r1 r2 r3 r4 r5 m1 m2 m3 m4 l1 l2 nw nx e1 e2 e3 e4 e5 e6 e7 e8 e9 e10 cx tr kp sf so sight g1 g2 g3 g4 g5 g6 g7 g8 g9 gx gs gn gt mp xp P0 B0 C0 A0 S0 K0 P1 B1 C1 A1 S1 K1 tx0 wt0 sf0 so0 tx1 wt1 sf1 so1 im ik = some 1 := by
  intro n
  induction n with
  | zero => intro i sg P B C A S op pd tx wt rp rb r1 r2 r3 r4 r5 m1 m2 m3 m4 l1 l2 nw nx e1 e2 e3 e4 e5 e6 e7 e8 e9 e10 cx tr kp sf so sight g1 g2 g3 g4 g5 g6 g7 g8 g9 gx gs gn gt mp xp P0 B0 C0 A0 S0 K0 P1 B1 C1 A1 S1 K1 tx0 wt0 sf0 so0 tx1 wt1 sf1 so1 im ik h1 h2; omega
  | succ n ih =>
    intro i sg P B C A S op pd tx wt rp rb r1 r2 r3 r4 r5 m1 m2 m3 m4 l1 l2 nw nx e1 e2 e3 e4 e5 e6 e7 e8 e9 e10 cx tr kp sf so sight g1 g2 g3 g4 g5 g6 g7 g8 g9 gx gs gn gt mp xp P0 B0 C0 A0 S0 K0 P1 B1 C1 A1 S1 K1 tx0 wt0 sf0 so0 tx1 wt1 sf1 so1 im ik hi hn hpd ht hsi h0 h1
    have hv4 : nI i + (4 : Int32) = nI (i + 4) := nI_add i 4
    rw [f_L_law_18]
    refine lp_if (fun _ => rfl) (fun hgo => ?_)
    have hiL := lp_end hL hi hgo
    have IH : ∀ (sg : Int32) (P : Int32) (B : Int32) (C : Int32) (A : Int32) (S : Int32) (op : Int32) (pd : Nat → Int32) (tx : Nat → Int32) (wt : Nat → Int32) (rp : Int32) (rb : Int32) (r1 : Nat → Int32) (r2 : Nat → Int32) (r3 : Nat → Int32) (r4 : Nat → Int32) (r5 : Nat → Int32) (m1 : Nat → Int32) (m2 : Nat → Int32) (m3 : Nat → Int32) (m4 : Nat → Int32) (l1 : Int64) (l2 : Int64) (nw : Nat → Int64) (nx : Nat → Int64) (e1 : Int32) (e2 : Int32) (e3 : Int32) (e4 : Int32) (e5 : Int32) (e6 : Int32) (e7 : Int32) (e8 : Int32) (e9 : Int32) (e10 : Int32) (cx : Nat → Int32) (tr : Nat → Int32) (kp : Nat → Int32) (sf : Nat → Int32) (so : Nat → Int32) (sight : Nat → Int32) (g1 : Int32) (g2 : Int32) (g3 : Int32) (g4 : Int32) (g5 : Int32) (g6 : Int32) (g7 : Int32) (g8 : Int64) (g9 : Int64) (gx : Nat → Int32) (gs : Nat → Int32) (gn : Nat → Int32) (gt : Nat → Int32) (mp : Nat → Int32) (xp : Nat → Int32) (P0 : Int32) (B0 : Int32) (C0 : Int32) (A0 : Int32) (S0 : Int32) (K0 : Int32) (P1 : Int32) (B1 : Int32) (C1 : Int32) (A1 : Int32) (S1 : Int32) (K1 : Int32) (tx0 : Nat → Int32) (wt0 : Nat → Int32) (sf0 : Nat → Int32) (so0 : Nat → Int32) (tx1 : Nat → Int32) (wt1 : Nat → Int32) (sf1 : Nat → Int32) (so1 : Nat → Int32) (im : Nat → Int32) (ik : Nat → Int32), PD sg pd → TI P B C A S tx wt sf so → SI sight sf so → II 0 im ik P0 B0 C0 A0 S0 K0 tx0 wt0 sf0 so0 → II 1 im ik P1 B1 C1 A1 S1 K1 tx1 wt1 sf1 so1 → f_L_law_18 xs L n (nI i + (4 : Int32)) sg sg P B C A S op pd pd P B C A S tx tx wt wt rp rb r1 r2 r3 r4 r5 m1 m2 m3 m4 l1 l2 nw nx e1 e2 e3 e4 e5 e6 e7 e8 e9 e10 cx tr kp sf so sight g1 g2 g3 g4 g5 g6 g7 g8 g9 gx gs gn gt mp xp P0 B0 C0 A0 S0 K0 P1 B1 C1 A1 S1 K1 tx0 wt0 sf0 so0 tx1 wt1 sf1 so1 im ik = some 1 := by
      rw [hv4]
      intro sg P B C A S op pd tx wt rp rb r1 r2 r3 r4 r5 m1 m2 m3 m4 l1 l2 nw nx e1 e2 e3 e4 e5 e6 e7 e8 e9 e10 cx tr kp sf so sight g1 g2 g3 g4 g5 g6 g7 g8 g9 gx gs gn gt mp xp P0 B0 C0 A0 S0 K0 P1 B1 C1 A1 S1 K1 tx0 wt0 sf0 so0 tx1 wt1 sf1 so1 im ik q1 q2 q3 q4 q5
      exact ih (i + 4) sg P B C A S op pd tx wt rp rb r1 r2 r3 r4 r5 m1 m2 m3 m4 l1 l2 nw nx e1 e2 e3 e4 e5 e6 e7 e8 e9 e10 cx tr kp sf so sight g1 g2 g3 g4 g5 g6 g7 g8 g9 gx gs gn gt mp xp P0 B0 C0 A0 S0 K0 P1 B1 C1 A1 S1 K1 tx0 wt0 sf0 so0 tx1 wt1 sf1 so1 im ik (by omega) (by omega) q1 q2 q3 q4 q5
    clear ih hgo
    have b0 : inB (nI i) L = true := inB_t (by omega) (by omega)
    have b1 : inB (nI i + (1 : Int32)) L = true := by rw [show nI i + (1 : Int32) = nI (i + 1) from nI_add i 1]; exact inB_t (by omega) (by omega)
    have b2 : inB (nI i + (2 : Int32)) L = true := by rw [show nI i + (2 : Int32) = nI (i + 2) from nI_add i 2]; exact inB_t (by omega) (by omega)
    have b3 : inB (nI i + (3 : Int32)) L = true := by rw [show nI i + (3 : Int32) = nI (i + 3) from nI_add i 3]; exact inB_t (by omega) (by omega)
    obtain ⟨p, b, c, st, tk, w, rfl, rfl, rfl, rfl, hpg, hw, hA, hs6, hsb⟩ := id ht
    refine lp_ck b0 ?_
    refine lp_if (fun _ => ?_) (fun _ => ?_)
    · refine lp_ck b1 ?_
      obtain ⟨a, sg2, pd2, k1, k2, hpd2⟩ := t_say hpd (xs (ix (nI i + (1 : Int32))))
      refine lp_bd k1 (lp_bd k2 (lp_yes rfl ?_))
      exact IH _ _ _ _ _ _ _ _ _ _ _ _ _ _ _ _ _ _ _ _ _ _ _ _ _ _ _ _ _ _ _ _ _ _ _ _ _ _ _ _ _ _ _ _ _ _ _ _ _ _ _ _ _ _ _ _ _ _ _ _ _ _ _ _ _ _ _ _ _ _ _ _ _ _ _ _ _ _ hpd2 ht hsi h0 h1
    refine lp_if (fun _ => ?_) (fun _ => ?_)
    · refine lp_bd (a := (sg, (0 : Int32))) rfl (lp_bd (a := (sg, (0 : Int32))) rfl (lp_yes rfl ?_))
      exact IH _ _ _ _ _ _ _ _ _ _ _ _ _ _ _ _ _ _ _ _ _ _ _ _ _ _ _ _ _ _ _ _ _ _ _ _ _ _ _ _ _ _ _ _ _ _ _ _ _ _ _ _ _ _ _ _ _ _ _ _ _ _ _ _ _ _ _ _ _ _ _ _ _ _ _ _ _ _ ⟨⟨0, by omega, rfl⟩, hpd.2⟩ ht hsi h0 h1
    refine lp_if (fun _ => ?_) (fun _ => ?_)
    · obtain ⟨a, k1, k2⟩ := t_fault hpd
      refine lp_bd k1 (lp_bd k2 (lp_yes rfl ?_))
      exact IH _ _ _ _ _ _ _ _ _ _ _ _ _ _ _ _ _ _ _ _ _ _ _ _ _ _ _ _ _ _ _ _ _ _ _ _ _ _ _ _ _ _ _ _ _ _ _ _ _ _ _ _ _ _ _ _ _ _ _ _ _ _ _ _ _ _ _ _ _ _ _ _ _ _ _ _ _ _ hpd ht hsi h0 h1
    refine lp_if (fun _ => ?_) (fun _ => ?_)
    · obtain ⟨a, sg2, P2, B2, S2, tx2, k1, k2, hpd2, ht2⟩ := t_page hpd ht
      refine lp_bd k1 (lp_bd k2 (lp_yes rfl ?_))
      exact IH _ _ _ _ _ _ _ _ _ _ _ _ _ _ _ _ _ _ _ _ _ _ _ _ _ _ _ _ _ _ _ _ _ _ _ _ _ _ _ _ _ _ _ _ _ _ _ _ _ _ _ _ _ _ _ _ _ _ _ _ _ _ _ _ _ _ _ _ _ _ _ _ _ _ _ _ _ _ hpd2 ht2 hsi h0 h1
    refine lp_if (fun _ => ?_) (fun _ => ?_)
    · refine lp_ck b1 ?_
      obtain ⟨a, B2, k1, k2, ht2⟩ := t_begin ht (xs (ix (nI i + (1 : Int32))))
      refine lp_bd k1 (lp_bd k2 (lp_yes rfl ?_))
      exact IH _ _ _ _ _ _ _ _ _ _ _ _ _ _ _ _ _ _ _ _ _ _ _ _ _ _ _ _ _ _ _ _ _ _ _ _ _ _ _ _ _ _ _ _ _ _ _ _ _ _ _ _ _ _ _ _ _ _ _ _ _ _ _ _ _ _ _ _ _ _ _ _ _ _ _ _ _ _ hpd ht2 hsi h0 h1
    refine lp_if (fun _ => ?_) (fun _ => ?_)
    · refine lp_ck b1 ?_
      obtain ⟨a, C2, k1, k2, ht2⟩ := t_court ht (xs (ix (nI i + (1 : Int32))))
      refine lp_bd k1 (lp_bd k2 (lp_yes rfl ?_))
      exact IH _ _ _ _ _ _ _ _ _ _ _ _ _ _ _ _ _ _ _ _ _ _ _ _ _ _ _ _ _ _ _ _ _ _ _ _ _ _ _ _ _ _ _ _ _ _ _ _ _ _ _ _ _ _ _ _ _ _ _ _ _ _ _ _ _ _ _ _ _ _ _ _ _ _ _ _ _ _ hpd ht2 hsi h0 h1
    refine lp_if (fun _ => ?_) (fun _ => ?_)
    · refine lp_ck b1 ?_
      obtain ⟨a, A2, k1, k2, ht2⟩ := t_allow ht (xs (ix (nI i + (1 : Int32))))
      refine lp_bd k1 (lp_bd k2 (lp_yes rfl ?_))
      exact IH _ _ _ _ _ _ _ _ _ _ _ _ _ _ _ _ _ _ _ _ _ _ _ _ _ _ _ _ _ _ _ _ _ _ _ _ _ _ _ _ _ _ _ _ _ _ _ _ _ _ _ _ _ _ _ _ _ _ _ _ _ _ _ _ _ _ _ _ _ _ _ _ _ _ _ _ _ _ hpd ht2 hsi h0 h1
    refine lp_if (fun _ => ?_) (fun _ => ?_)
    · refine lp_ck b1 ?_
      refine lp_ck b2 ?_
      obtain ⟨a, wt2, k1, k2, ht2⟩ := t_weight ht (xs (ix (nI i + (1 : Int32)))) (xs (ix (nI i + (2 : Int32))))
      refine lp_bd k1 (lp_bd k2 (lp_yes rfl ?_))
      exact IH _ _ _ _ _ _ _ _ _ _ _ _ _ _ _ _ _ _ _ _ _ _ _ _ _ _ _ _ _ _ _ _ _ _ _ _ _ _ _ _ _ _ _ _ _ _ _ _ _ _ _ _ _ _ _ _ _ _ _ _ _ _ _ _ _ _ _ _ _ _ _ _ _ _ _ _ _ _ hpd ht2 hsi h0 h1
    refine lp_if (fun _ => ?_) (fun _ => ?_)
    · refine lp_ck b1 ?_
      refine lp_ck b2 ?_
      obtain ⟨a, k1, k2⟩ := t_place hpg (xs (ix (nI i + (1 : Int32)))) (xs (ix (nI i + (2 : Int32))))
      refine lp_bd k1 (lp_bd k2 (lp_yes rfl ?_))
      exact IH _ _ _ _ _ _ _ _ _ _ _ _ _ _ _ _ _ _ _ _ _ _ _ _ _ _ _ _ _ _ _ _ _ _ _ _ _ _ _ _ _ _ _ _ _ _ _ _ _ _ _ _ _ _ _ _ _ _ _ _ _ _ _ _ _ _ _ _ _ _ _ _ _ _ _ _ _ _ hpd ht hsi h0 h1
    refine lp_if (fun _ => ?_) (fun _ => ?_)
    · refine lp_ck b1 ?_
      obtain ⟨a, v, u, k1, k2⟩ := t_out hpg (xs (ix (nI i + (1 : Int32)))) rp rb r1 r2 r3 r4 r5 op m1 m2
      refine lp_bd k1 (lp_bd k2 (lp_yes rfl ?_))
      exact IH _ _ _ _ _ _ _ _ _ _ _ _ _ _ _ _ _ _ _ _ _ _ _ _ _ _ _ _ _ _ _ _ _ _ _ _ _ _ _ _ _ _ _ _ _ _ _ _ _ _ _ _ _ _ _ _ _ _ _ _ _ _ _ _ _ _ _ _ _ _ _ _ _ _ _ _ _ _ hpd ht hsi h0 h1
    refine lp_if (fun _ => ?_) (fun _ => ?_)
    · obtain ⟨a, v, u, k1, k2⟩ := t_streams hpg rp rb r1 r2 r3 r4 r5 op m1 m2
      refine lp_bd k1 (lp_bd k2 (lp_yes rfl ?_))
      exact IH _ _ _ _ _ _ _ _ _ _ _ _ _ _ _ _ _ _ _ _ _ _ _ _ _ _ _ _ _ _ _ _ _ _ _ _ _ _ _ _ _ _ _ _ _ _ _ _ _ _ _ _ _ _ _ _ _ _ _ _ _ _ _ _ _ _ _ _ _ _ _ _ _ _ _ _ _ _ hpd ht hsi h0 h1
    refine lp_if (fun _ => ?_) (fun _ => ?_)
    · refine lp_ck b1 ?_
      refine lp_ck b2 ?_
      obtain ⟨a, v, u, k1, k2⟩ := t_meet hpg (xs (ix (nI i + (1 : Int32)))) (xs (ix (nI i + (2 : Int32)))) rp rb r1 op m1 m2
      refine lp_bd k1 (lp_bd k2 (lp_yes rfl ?_))
      exact IH _ _ _ _ _ _ _ _ _ _ _ _ _ _ _ _ _ _ _ _ _ _ _ _ _ _ _ _ _ _ _ _ _ _ _ _ _ _ _ _ _ _ _ _ _ _ _ _ _ _ _ _ _ _ _ _ _ _ _ _ _ _ _ _ _ _ _ _ _ _ _ _ _ _ _ _ _ _ hpd ht hsi h0 h1
    refine lp_if (fun _ => ?_) (fun _ => ?_)
    · refine lp_ck b1 ?_
      obtain ⟨a, v, u, k1, k2⟩ := t_pass hpg (xs (ix (nI i + (1 : Int32)))) rp rb r1 op m1 m2
      refine lp_bd k1 (lp_bd k2 (lp_yes rfl ?_))
      exact IH _ _ _ _ _ _ _ _ _ _ _ _ _ _ _ _ _ _ _ _ _ _ _ _ _ _ _ _ _ _ _ _ _ _ _ _ _ _ _ _ _ _ _ _ _ _ _ _ _ _ _ _ _ _ _ _ _ _ _ _ _ _ _ _ _ _ _ _ _ _ _ _ _ _ _ _ _ _ hpd ht hsi h0 h1
    refine lp_if (fun _ => ?_) (fun _ => ?_)
    · refine lp_ck b1 ?_
      refine lp_ck b2 ?_
      obtain ⟨a, v, u, k1, k2⟩ := t_tree hpg (xs (ix (nI i + (1 : Int32)))) (xs (ix (nI i + (2 : Int32)))) rp rb r1 r2 r3 r4 r5 op m1 m2 m3
      refine lp_bd k1 (lp_bd k2 (lp_yes rfl ?_))
      exact IH _ _ _ _ _ _ _ _ _ _ _ _ _ _ _ _ _ _ _ _ _ _ _ _ _ _ _ _ _ _ _ _ _ _ _ _ _ _ _ _ _ _ _ _ _ _ _ _ _ _ _ _ _ _ _ _ _ _ _ _ _ _ _ _ _ _ _ _ _ _ _ _ _ _ _ _ _ _ hpd ht hsi h0 h1
    refine lp_if (fun _ => ?_) (fun _ => ?_)
    · obtain ⟨a, v, u, k1, k2⟩ := t_nowhere hpg rp rb r1 r2 r3 r4 r5 op m1 m2 m3
      refine lp_bd k1 (lp_bd k2 (lp_yes rfl ?_))
      exact IH _ _ _ _ _ _ _ _ _ _ _ _ _ _ _ _ _ _ _ _ _ _ _ _ _ _ _ _ _ _ _ _ _ _ _ _ _ _ _ _ _ _ _ _ _ _ _ _ _ _ _ _ _ _ _ _ _ _ _ _ _ _ _ _ _ _ _ _ _ _ _ _ _ _ _ _ _ _ hpd ht hsi h0 h1
    refine lp_if (fun _ => ?_) (fun _ => ?_)
    · refine lp_ck b1 ?_
      refine lp_ck b2 ?_
      obtain ⟨a, v, u, k1, k2⟩ := t_minds hpg (xs (ix (nI i + (1 : Int32)))) (xs (ix (nI i + (2 : Int32)))) rp rb r1 r2 r3 r4 r5 op m1 m2 m4
      refine lp_bd k1 (lp_bd k2 (lp_yes rfl ?_))
      exact IH _ _ _ _ _ _ _ _ _ _ _ _ _ _ _ _ _ _ _ _ _ _ _ _ _ _ _ _ _ _ _ _ _ _ _ _ _ _ _ _ _ _ _ _ _ _ _ _ _ _ _ _ _ _ _ _ _ _ _ _ _ _ _ _ _ _ _ _ _ _ _ _ _ _ _ _ _ _ hpd ht hsi h0 h1
    refine lp_if (fun _ => ?_) (fun _ => ?_)
    · refine lp_ck b1 ?_
      obtain ⟨a, v, u, k1, k2⟩ := t_one hpg (xs (ix (nI i + (1 : Int32)))) rp rb r1 r2 r3 r4 r5 op m1 m2 m4
      refine lp_bd k1 (lp_bd k2 (lp_yes rfl ?_))
      exact IH _ _ _ _ _ _ _ _ _ _ _ _ _ _ _ _ _ _ _ _ _ _ _ _ _ _ _ _ _ _ _ _ _ _ _ _ _ _ _ _ _ _ _ _ _ _ _ _ _ _ _ _ _ _ _ _ _ _ _ _ _ _ _ _ _ _ _ _ _ _ _ _ _ _ _ _ _ _ hpd ht hsi h0 h1
    refine lp_if (fun _ => ?_) (fun _ => ?_)
    · refine lp_ck b1 ?_
      obtain ⟨a, v, u, k1, k2⟩ := t_best hpg (xs (ix (nI i + (1 : Int32)))) rp rb r1 r2 r3 r4 r5 op m1 m2
      refine lp_bd k1 (lp_bd k2 (lp_yes rfl ?_))
      exact IH _ _ _ _ _ _ _ _ _ _ _ _ _ _ _ _ _ _ _ _ _ _ _ _ _ _ _ _ _ _ _ _ _ _ _ _ _ _ _ _ _ _ _ _ _ _ _ _ _ _ _ _ _ _ _ _ _ _ _ _ _ _ _ _ _ _ _ _ _ _ _ _ _ _ _ _ _ _ hpd ht hsi h0 h1
    refine lp_if (fun _ => ?_) (fun _ => ?_)
    · refine lp_ck b1 ?_
      refine lp_ck b2 ?_
      refine lp_ck b3 ?_
      obtain ⟨a, v, u, k1, k2⟩ := t_likely hpg hw (xs (ix (nI i + (1 : Int32)))) (xs (ix (nI i + (2 : Int32)))) (xs (ix (nI i + (3 : Int32)))) rp rb r1 l1 l2 nw nx op m1 m2
      refine lp_bd k1 (lp_bd k2 (lp_yes (lg_eq.mpr rfl) ?_))
      exact IH _ _ _ _ _ _ _ _ _ _ _ _ _ _ _ _ _ _ _ _ _ _ _ _ _ _ _ _ _ _ _ _ _ _ _ _ _ _ _ _ _ _ _ _ _ _ _ _ _ _ _ _ _ _ _ _ _ _ _ _ _ _ _ _ _ _ _ _ _ _ _ _ _ _ _ _ _ _ hpd ht hsi h0 h1
    refine lp_if (fun _ => ?_) (fun _ => ?_)
    · refine lp_ck b1 ?_
      obtain ⟨a, v, u, k1, k2⟩ := t_all hpg hw (xs (ix (nI i + (1 : Int32)))) rp rb r1 l1 l2 nw nx op m1 m2
      refine lp_bd k1 (lp_bd k2 (lp_yes (lg_eq.mpr rfl) ?_))
      exact IH _ _ _ _ _ _ _ _ _ _ _ _ _ _ _ _ _ _ _ _ _ _ _ _ _ _ _ _ _ _ _ _ _ _ _ _ _ _ _ _ _ _ _ _ _ _ _ _ _ _ _ _ _ _ _ _ _ _ _ _ _ _ _ _ _ _ _ _ _ _ _ _ _ _ _ _ _ _ hpd ht hsi h0 h1
    refine lp_if (fun _ => ?_) (fun _ => ?_)
    · refine lp_ck b1 ?_
      refine lp_ck b2 ?_
      refine lp_ck b3 ?_
      obtain ⟨a, v, u, k1, k2⟩ := t_write hpg hw hA (xs (ix (nI i + (1 : Int32)))) (xs (ix (nI i + (2 : Int32)))) (xs (ix (nI i + (3 : Int32)))) rp rb r1 e1 e2 e3 e4 e5 e6 e7 e8 e9 e10 cx tr kp op m1 m2
      refine lp_bd k1 (lp_bd k2 (lp_yes rfl ?_))
      exact IH _ _ _ _ _ _ _ _ _ _ _ _ _ _ _ _ _ _ _ _ _ _ _ _ _ _ _ _ _ _ _ _ _ _ _ _ _ _ _ _ _ _ _ _ _ _ _ _ _ _ _ _ _ _ _ _ _ _ _ _ _ _ _ _ _ _ _ _ _ _ _ _ _ _ _ _ _ _ hpd ht hsi h0 h1
    refine lp_if (fun _ => ?_) (fun _ => ?_)
    · refine lp_ck b1 ?_
      obtain ⟨a, v, u, k1, k2⟩ := t_soonest hpg hw hA (xs (ix (nI i + (1 : Int32)))) rp rb r1 e1 e2 e3 e4 e5 e6 e7 e8 e9 e10 cx tr kp op m1 m2
      refine lp_bd k1 (lp_bd k2 (lp_yes rfl ?_))
      exact IH _ _ _ _ _ _ _ _ _ _ _ _ _ _ _ _ _ _ _ _ _ _ _ _ _ _ _ _ _ _ _ _ _ _ _ _ _ _ _ _ _ _ _ _ _ _ _ _ _ _ _ _ _ _ _ _ _ _ _ _ _ _ _ _ _ _ _ _ _ _ _ _ _ _ _ _ _ _ hpd ht hsi h0 h1
    refine lp_if (fun _ => ?_) (fun _ => ?_)
    · refine lp_ck b1 ?_
      refine lp_ck b2 ?_
      obtain ⟨a, S2, sf2, so2, sight2, k1, k2, ht2, hsi2⟩ := t_seen ht hsi (xs (ix (nI i + (1 : Int32)))) (xs (ix (nI i + (2 : Int32))))
      refine lp_bd k1 (lp_bd k2 (lp_yes rfl ?_))
      exact IH _ _ _ _ _ _ _ _ _ _ _ _ _ _ _ _ _ _ _ _ _ _ _ _ _ _ _ _ _ _ _ _ _ _ _ _ _ _ _ _ _ _ _ _ _ _ _ _ _ _ _ _ _ _ _ _ _ _ _ _ _ _ _ _ _ _ _ _ _ _ _ _ _ _ _ _ _ _ hpd ht2 hsi2 h0 h1
    refine lp_if (fun _ => ?_) (fun _ => ?_)
    · refine lp_bd (a := (nI st, (0 : Int32))) rfl (lp_bd (a := (nI st, (0 : Int32))) rfl (lp_yes rfl ?_))
      exact IH _ _ _ _ _ _ _ _ _ _ _ _ _ _ _ _ _ _ _ _ _ _ _ _ _ _ _ _ _ _ _ _ _ _ _ _ _ _ _ _ _ _ _ _ _ _ _ _ _ _ _ _ _ _ _ _ _ _ _ _ _ _ _ _ _ _ _ _ _ _ _ _ _ _ _ _ _ _ hpd (TI_forget ht) hsi h0 h1
    refine lp_if (fun _ => ?_) (fun _ => ?_)
    · obtain ⟨a, v, u, k1, k2⟩ := t_fits hpg hw hs6 hsi hsb (nI b) rp rb r1 g1 g2 g3 g4 g5 g6 g7 g8 g9 gx gs gn gt op m1 m2
      refine lp_bd k1 (lp_bd k2 (lp_yes rfl ?_))
      exact IH _ _ _ _ _ _ _ _ _ _ _ _ _ _ _ _ _ _ _ _ _ _ _ _ _ _ _ _ _ _ _ _ _ _ _ _ _ _ _ _ _ _ _ _ _ _ _ _ _ _ _ _ _ _ _ _ _ _ _ _ _ _ _ _ _ _ _ _ _ _ _ _ _ _ _ _ _ _ hpd ht hsi h0 h1
    refine lp_if (fun _ => ?_) (fun _ => ?_)
    · refine lp_ck b1 ?_
      refine lp_ck b2 ?_
      refine lp_ck b3 ?_
      obtain ⟨a, v, u, k1, k2⟩ := t_drawn hpg hw hs6 hsi hsb (xs (ix (nI i + (1 : Int32)))) (xs (ix (nI i + (2 : Int32)))) (xs (ix (nI i + (3 : Int32)))) (nI b) rp rb r1 g1 g2 g3 g4 g5 g6 g7 g8 g9 gx gs gn gt op m1 m2
      refine lp_bd k1 (lp_bd k2 (lp_yes (lg_eq.mpr rfl) ?_))
      exact IH _ _ _ _ _ _ _ _ _ _ _ _ _ _ _ _ _ _ _ _ _ _ _ _ _ _ _ _ _ _ _ _ _ _ _ _ _ _ _ _ _ _ _ _ _ _ _ _ _ _ _ _ _ _ _ _ _ _ _ _ _ _ _ _ _ _ _ _ _ _ _ _ _ _ _ _ _ _ hpd ht hsi h0 h1
    refine lp_if (fun _ => ?_) (fun _ => ?_)
    · refine lp_ck b1 ?_
      rcases t_shuffle hpg (xs (ix (nI i + (1 : Int32)))) mp with ⟨u, k1, k2⟩ | ⟨s, u, k1, k2⟩
      · refine lp_bd k1 (lp_bd k2 (lp_yes rfl ?_))
        exact IH _ _ _ _ _ _ _ _ _ _ _ _ _ _ _ _ _ _ _ _ _ _ _ _ _ _ _ _ _ _ _ _ _ _ _ _ _ _ _ _ _ _ _ _ _ _ _ _ _ _ _ _ _ _ _ _ _ _ _ _ _ _ _ _ _ _ _ _ _ _ _ _ _ _ _ _ _ _ hpd ht hsi h0 h1
      · refine lp_bd k1 (lp_bd k2 (lp_yes rfl ?_))
        have hp1 := hpg.2.1
        exact IH _ _ _ _ _ _ _ _ _ _ _ _ _ _ _ _ _ _ _ _ _ _ _ _ _ _ _ _ _ _ _ _ _ _ _ _ _ _ _ _ _ _ _ _ _ _ _ _ _ _ _ _ _ _ _ _ _ _ _ _ _ _ _ _ _ _ _ _ _ _ _ _ _ _ _ _ _ _ hpd ⟨p, b, c, st, _, w, rfl, rfl, rfl, rfl, hpg.mixed (show p - 1 < p by omega) s, hw, hA, hs6, hsb⟩ hsi h0 h1
    refine lp_if (fun _ => ?_) (fun _ => ?_)
    · refine lp_ck b1 ?_
      refine lp_ck b2 ?_
      obtain ⟨a, v, u, k1, k2⟩ := t_wrong hpg (xs (ix (nI i + (1 : Int32)))) (xs (ix (nI i + (2 : Int32)))) rp rb xp r1 r2 r3 r4 r5 mp m1
      refine lp_bd k1 (lp_bd k2 (lp_yes rfl ?_))
      exact IH _ _ _ _ _ _ _ _ _ _ _ _ _ _ _ _ _ _ _ _ _ _ _ _ _ _ _ _ _ _ _ _ _ _ _ _ _ _ _ _ _ _ _ _ _ _ _ _ _ _ _ _ _ _ _ _ _ _ _ _ _ _ _ _ _ _ _ _ _ _ _ _ _ _ _ _ _ _ hpd ht hsi h0 h1
    refine lp_if (fun _ => ?_) (fun _ => ?_)
    · refine lp_ck b1 ?_
      obtain ⟨a, P02, B02, C02, A02, S02, K02, P12, B12, C12, A12, S12, K12, tx02, wt02, sf02, so02, tx12, wt12, sf12, so12, im2, ik2, k1, k2, h02, h12⟩ := t_image ht hsi h0 h1 (xs (ix (nI i + (1 : Int32))))
      refine lp_bd k1 (lp_bd k2 (lp_yes rfl ?_))
      exact IH _ _ _ _ _ _ _ _ _ _ _ _ _ _ _ _ _ _ _ _ _ _ _ _ _ _ _ _ _ _ _ _ _ _ _ _ _ _ _ _ _ _ _ _ _ _ _ _ _ _ _ _ _ _ _ _ _ _ _ _ _ _ _ _ _ _ _ _ _ _ _ _ _ _ _ _ _ _ hpd ht hsi h02 h12
    refine lp_if (fun _ => ?_) (fun _ => ?_)
    · refine lp_ck b1 ?_
      obtain ⟨a, P2, B2, C2, A2, S2, tx2, wt2, sf2, so2, sight2, k1, k2, ht2, hsi2⟩ := t_restore ht hsi h0 h1 (xs (ix (nI i + (1 : Int32))))
      refine lp_bd k1 (lp_bd k2 (lp_yes rfl ?_))
      exact IH _ _ _ _ _ _ _ _ _ _ _ _ _ _ _ _ _ _ _ _ _ _ _ _ _ _ _ _ _ _ _ _ _ _ _ _ _ _ _ _ _ _ _ _ _ _ _ _ _ _ _ _ _ _ _ _ _ _ _ _ _ _ _ _ _ _ _ _ _ _ _ _ _ _ _ _ _ _ hpd ht2 hsi2 h0 h1
    refine lp_if (fun _ => ?_) (fun _ => ?_)
    · refine lp_ck b1 ?_
      obtain ⟨a, k1, k2⟩ := t_told hpg.2.2.1 (xs (ix (nI i + (1 : Int32)))) sg (nI b) (nI c) A (nI st) wt tx
      refine lp_bd k1 (lp_bd k2 (lp_yes rfl ?_))
      exact IH _ _ _ _ _ _ _ _ _ _ _ _ _ _ _ _ _ _ _ _ _ _ _ _ _ _ _ _ _ _ _ _ _ _ _ _ _ _ _ _ _ _ _ _ _ _ _ _ _ _ _ _ _ _ _ _ _ _ _ _ _ _ _ _ _ _ _ _ _ _ _ _ _ _ _ _ _ _ hpd ht hsi h0 h1
    exact IH _ _ _ _ _ _ _ _ _ _ _ _ _ _ _ _ _ _ _ _ _ _ _ _ _ _ _ _ _ _ _ _ _ _ _ _ _ _ _ _ _ _ _ _ _ _ _ _ _ _ _ _ _ _ _ _ _ _ _ _ _ _ _ _ _ _ _ _ _ _ _ _ _ _ _ _ _ _ hpd ht hsi h0 h1
