set_option maxHeartbeats 4000000 in
theorem s_bitCount {x : Nat} (hx : x < 2 ^ 64) : f_J13_bitCount_95d88 (lN x) = some (nI (pct x 64)) := by
  have h264 : (256 : Nat) ^ 8 = 2 ^ 64 := by decide +kernel
  have hx8 : x < 256 ^ 8 := by rw [h264]; exact hx
  have g1 : ∀ a, a < 256 → e1_ a < 256 := fun a h => (d3_ a h).1
  have g2 : ∀ a, a < 256 → (fun a => e2_ (e1_ a)) a < 256 := fun a h => (d3_ a h).2.2.1
  have g3 : ∀ a, a < 256 → pcb a < 256 := fun a h => by have := (pcb_pct h).2; omega
  obtain ⟨i1, i2⟩ := s1_bm 8 x hx8
  rw [show mk_ 85 8 = 6148914691236517205 from by decide +kernel] at i1 i2
  have y1 := bm_lt _ g1 8 x
  have i3 := s2_bm 8 (bm e1_ 8 x)
  rw [show mk_ 51 8 = 3689348814741910323 from by decide +kernel, bm_e12] at i3
  have y2 := bm_lt _ g2 8 x
  have hn : nib 8 (bm (fun a => e2_ (e1_ a)) 8 x) := fun j hj => by
    rw [bm_dig _ g2 j 8 x hj]
    have := d3_ (x / 256 ^ j % 256) (Nat.mod_lt _ (by decide))
    exact ⟨this.2.2.2.1, this.2.2.2.2.1⟩
  have i4 := s3_bm 7 _ hn y2
  rw [show mk_ 15 (7 + 1) = 1085102592571150095 from by decide +kernel, bm_comp _ e3_ g2 (7 + 1) x] at i4
  have y3 := bm_lt pcb g3 8 x
  have hb : ∀ a, a % 256 < 256 := fun a => Nat.mod_lt _ (by decide)
  rw [f_J13_bitCount_95d88, f_J13_bitCount_95d88_10, f_J13_bitCount_95d88_24, f_J13_bitCount_95d88_34, f_J13_bitCount_95d88_41, f_J13_bitCount_95d88_48, f_J13_bitCount_95d88_55]
  have sh : ∀ (n k : Nat), n < 2 ^ 64 → k < 64 → jlushr (lN n) (nI k) = lN (n / 2 ^ k) := fun n k h1 h2 => wb_shr h1 h2
  have c1 : (6148914691236517205 : Int64) = lN 6148914691236517205 := rfl
  have c2 : (3689348814741910323 : Int64) = lN 3689348814741910323 := rfl
  have c3 : (1085102592571150095 : Int64) = lN 1085102592571150095 := rfl
  have w1 : (1 : Int32) = nI 1 := rfl
  have w2 : (2 : Int32) = nI 2 := rfl
  have w4 : (4 : Int32) = nI 4 := rfl
  have w8 : (8 : Int32) = nI 8 := rfl
  have w16 : (16 : Int32) = nI 16 := rfl
  have w32 : (32 : Int32) = nI 32 := rfl
  rw [w1, sh x 1 hx (by decide), c1, fb_andL, Nat.pow_one, lN_sub i1, i2]
  rw [c2, fb_andL, w2, sh _ 2 (by rw [← h264]; exact y1) (by decide), fb_andL, lN_add, show (2 : Nat) ^ 2 = 4 from rfl, i3]
  rw [w4, sh _ 4 (by rw [← h264]; exact y2) (by decide), lN_add, c3, fb_andL, show (2 : Nat) ^ 4 = 16 from rfl, i4]
  have hv : bm pcb 8 x = dg [pcb (x % 256), pcb (x / 256 % 256), pcb (x / 256 / 256 % 256), pcb (x / 256 / 256 / 256 % 256), pcb (x / 256 / 256 / 256 / 256 % 256), pcb (x / 256 / 256 / 256 / 256 / 256 % 256), pcb (x / 256 / 256 / 256 / 256 / 256 / 256 % 256), pcb (x / 256 / 256 / 256 / 256 / 256 / 256 / 256 % 256)] := rfl
  have hv0 : True := trivial
  obtain ⟨r, s, t, e1, e2, e3, z1, z2, z4⟩ := pop_last (pcb_pct (hb _)).2 (pcb_pct (hb _)).2 (pcb_pct (hb _)).2 (pcb_pct (hb _)).2 (pcb_pct (hb _)).2 (pcb_pct (hb _)).2 (pcb_pct (hb _)).2 (pcb_pct (hb _)).2
  change some ((lN (bm pcb 8 x) + jlushr (lN (bm pcb 8 x)) 8 + jlushr (lN (bm pcb 8 x) + jlushr (lN (bm pcb 8 x)) 8) 16 + jlushr (lN (bm pcb 8 x) + jlushr (lN (bm pcb 8 x)) 8 + jlushr (lN (bm pcb 8 x) + jlushr (lN (bm pcb 8 x)) 8) 16) 32).toInt32 &&& 127) = _
  rw [← hv] at e1
  rw [w8, sh _ 8 (by rw [← h264]; exact y3) (by decide), lN_add, show (2 : Nat) ^ 8 = 256 from rfl, e1, w16, sh r 16 (by omega) (by decide), lN_add, show (2 : Nat) ^ 16 = 65536 from rfl, e2, w32, sh s 32 (by omega) (by decide), lN_add, show (2 : Nat) ^ 32 = 4294967296 from rfl, e3, lN_i]
  rw [show (127 : Int32) = nI (2 ^ 7 - 1) from rfl, fa_mask, show (2 : Nat) ^ 7 = 128 from rfl, z4]
  have p8 : pct x 64 = pct (x % 256) 8 + (pct (x / 256 % 256) 8 + (pct (x / 256 / 256 % 256) 8 + (pct (x / 256 / 256 / 256 % 256) 8 + (pct (x / 256 / 256 / 256 / 256 % 256) 8 + (pct (x / 256 / 256 / 256 / 256 / 256 % 256) 8 + (pct (x / 256 / 256 / 256 / 256 / 256 / 256 % 256) 8 + (pct (x / 256 / 256 / 256 / 256 / 256 / 256 / 256 % 256) 8 + pct (x / 256 / 256 / 256 / 256 / 256 / 256 / 256 / 256) 0))))))) := by
    rw [show 64 = 8 + (8 + (8 + (8 + (8 + (8 + (8 + (8 + 0))))))) from rfl, pct_8, pct_8, pct_8, pct_8, pct_8, pct_8, pct_8, pct_8]
  rw [p8, (pcb_pct (hb x)).1, (pcb_pct (hb (x / 256))).1, (pcb_pct (hb (x / 256 / 256))).1, (pcb_pct (hb (x / 256 / 256 / 256))).1, (pcb_pct (hb (x / 256 / 256 / 256 / 256))).1, (pcb_pct (hb (x / 256 / 256 / 256 / 256 / 256))).1, (pcb_pct (hb (x / 256 / 256 / 256 / 256 / 256 / 256))).1, (pcb_pct (hb (x / 256 / 256 / 256 / 256 / 256 / 256 / 256))).1]
  rw [show pct (x / 256 / 256 / 256 / 256 / 256 / 256 / 256 / 256) 0 = 0 from rfl]
  congr 2
  omega
