/-! ===== the law: its cases ===== -/
theorem cs_j {L i d : Nat} (h : i + d < L) (hL : L ≤ 3072) (x : Int32) (hx : x = nI d) : am_inB (nI i + x) L = true := by rw [hx]; exact cs_in h hL
theorem lg_0 (v : Int64) : lg_cmp v v = 0 := (lg_cmp_eq v v).mpr rfl
theorem L_340 {z L : Nat} {xs : Nat → Int32} {k18 : Int32 → aM → Option aR} {n i : Nat} {M : aM} {W : cW} (hz : 2000 ≤ z) (hi : i + 6 ≤ L) (hL : L ≤ 3072) (h : RW M W) : ∃ M2 W2, f345_340 z L xs k18 (n + 1) (nI i) M = k18 (nI (i + 6)) M2 ∧ RW M2 W2 := by
  obtain ⟨v, M1, M2, e1, e2, W2, h2⟩ := P_feed (z := z) hz h (xs (nI i + (1 : Int32)).toNatClampNeg) (xs (nI i + (2 : Int32)).toNatClampNeg) (xs (nI i + (3 : Int32)).toNatClampNeg) (xs (nI i + (4 : Int32)).toNatClampNeg) (xs (nI i + (5 : Int32)).toNatClampNeg)
  have j1 : am_inB (nI i + (1 : Int32)) L = true := cs_j (d := 1) (by omega) hL _ rfl
  have j2 : am_inB (nI i + (2 : Int32)) L = true := cs_j (d := 2) (by omega) hL _ rfl
  have j3 : am_inB (nI i + (3 : Int32)) L = true := cs_j (d := 3) (by omega) hL _ rfl
  have j4 : am_inB (nI i + (4 : Int32)) L = true := cs_j (d := 4) (by omega) hL _ rfl
  have j5 : am_inB (nI i + (5 : Int32)) L = true := cs_j (d := 5) (by omega) hL _ rfl
  refine ⟨M2, W2, ?_, h2⟩
  rw [f345_340, if_pos j1, if_pos j2, if_pos j3, if_pos j4, if_pos j5, e1, cb_bi, if_pos j1, if_pos j2, if_pos j3, if_pos j4, if_pos j5, e2, cb_bi, if_pos rfl, cs_6, nI_add]
theorem L_403 {z L : Nat} {xs : Nat → Int32} {k18 : Int32 → aM → Option aR} {n i : Nat} {M : aM} {W : cW} (hz : 2000 ≤ z) (hi : i + 6 ≤ L) (hL : L ≤ 3072) (h : RW M W) : ∃ M2 W2, f345_403 z L xs k18 (n + 1) (nI i) M = k18 (nI (i + 6)) M2 ∧ RW M2 W2 := by
  obtain ⟨v, M1, M2, e1, e2, W2, h2⟩ := P_end (z := z) h (xs (nI i + (1 : Int32)).toNatClampNeg)
  have j1 : am_inB (nI i + (1 : Int32)) L = true := cs_j (d := 1) (by omega) hL _ rfl
  refine ⟨M2, W2, ?_, h2⟩
  rw [f345_403, if_pos j1, e1, cb_bi, if_pos j1, e2, cb_bi, if_pos rfl, cs_6, nI_add]
theorem L_426 {z L : Nat} {xs : Nat → Int32} {k18 : Int32 → aM → Option aR} {n i : Nat} {M : aM} {W : cW} (hz : 2000 ≤ z) (hi : i + 6 ≤ L) (hL : L ≤ 3072) (hcl : ∀ {M : aM} {W : cW}, RW M W → PR (f82 z M) (f206 z)) (h : RW M W) : ∃ M2 W2, f345_426 z L xs k18 (n + 1) (nI i) M = k18 (nI (i + 6)) M2 ∧ RW M2 W2 := by
  obtain ⟨v, M1, M2, e1, e2, W2, h2⟩ := hcl h
  refine ⟨M2, W2, ?_, h2⟩
  rw [f345_426, e1, cb_bi, e2, cb_bi, if_pos rfl, cs_6, nI_add]
theorem L_439 {z L : Nat} {xs : Nat → Int32} {k18 : Int32 → aM → Option aR} {n i : Nat} {M : aM} {W : cW} (hz : 2000 ≤ z) (hi : i + 6 ≤ L) (hL : L ≤ 3072) (h : RW M W) : ∃ M2 W2, f345_439 z L xs k18 (n + 1) (nI i) M = k18 (nI (i + 6)) M2 ∧ RW M2 W2 := by
  obtain ⟨v, M1, M2, e1, e2, W2, h2⟩ := P_fault (z := z) h (xs (nI i + (1 : Int32)).toNatClampNeg)
  have j1 : am_inB (nI i + (1 : Int32)) L = true := cs_j (d := 1) (by omega) hL _ rfl
  refine ⟨M2, W2, ?_, h2⟩
  rw [f345_439, if_pos j1, e1, cb_bi, if_pos j1, e2, cb_bi, if_pos rfl, cs_6, nI_add]
theorem L_462 {z L : Nat} {xs : Nat → Int32} {k18 : Int32 → aM → Option aR} {n i : Nat} {M : aM} {W : cW} (hz : 2000 ≤ z) (hi : i + 6 ≤ L) (hL : L ≤ 3072) (h : RW M W) : ∃ M2 W2, f345_462 z L xs k18 (n + 1) (nI i) M = k18 (nI (i + 6)) M2 ∧ RW M2 W2 := by
  obtain ⟨v, M1, M2, e1, e2, W2, h2⟩ := P_thread (z := z) h (xs (nI i + (1 : Int32)).toNatClampNeg) (xs (nI i + (2 : Int32)).toNatClampNeg)
  have j1 : am_inB (nI i + (1 : Int32)) L = true := cs_j (d := 1) (by omega) hL _ rfl
  have j2 : am_inB (nI i + (2 : Int32)) L = true := cs_j (d := 2) (by omega) hL _ rfl
  refine ⟨M2, W2, ?_, h2⟩
  rw [f345_462, if_pos j1, if_pos j2, e1, cb_bi, if_pos j1, if_pos j2, e2, cb_bi, if_pos rfl, cs_6, nI_add]
theorem L_495 {z L : Nat} {xs : Nat → Int32} {k18 : Int32 → aM → Option aR} {n i : Nat} {M : aM} {W : cW} (hz : 2000 ≤ z) (hi : i + 6 ≤ L) (hL : L ≤ 3072) (h : RW M W) : ∃ M2 W2, f345_495 z L xs k18 (n + 1) (nI i) M = k18 (nI (i + 6)) M2 ∧ RW M2 W2 := by
  obtain ⟨v, M1, M2, e1, e2, W2, h2⟩ := P_quarrel (z := z) h (xs (nI i + (1 : Int32)).toNatClampNeg) (xs (nI i + (2 : Int32)).toNatClampNeg)
  have j1 : am_inB (nI i + (1 : Int32)) L = true := cs_j (d := 1) (by omega) hL _ rfl
  have j2 : am_inB (nI i + (2 : Int32)) L = true := cs_j (d := 2) (by omega) hL _ rfl
  refine ⟨M2, W2, ?_, h2⟩
  rw [f345_495, if_pos j1, if_pos j2, e1, cb_bi, if_pos j1, if_pos j2, e2, cb_bi, if_pos rfl, cs_6, nI_add]
theorem L_528 {z L : Nat} {xs : Nat → Int32} {k18 : Int32 → aM → Option aR} {n i : Nat} {M : aM} {W : cW} (hz : 2000 ≤ z) (hi : i + 6 ≤ L) (hL : L ≤ 3072) (h : RW M W) : ∃ M2 W2, f345_528 z L xs k18 (n + 1) (nI i) M = k18 (nI (i + 6)) M2 ∧ RW M2 W2 := by
  obtain ⟨v, M1, M2, e1, e2, W2, h2⟩ := P_threads (z := z) hz h (xs (nI i + (1 : Int32)).toNatClampNeg)
  have j1 : am_inB (nI i + (1 : Int32)) L = true := cs_j (d := 1) (by omega) hL _ rfl
  refine ⟨M2, W2, ?_, h2⟩
  rw [f345_528, if_pos j1, e1, cb_bi, if_pos j1, e2, cb_bi, if_pos rfl, cs_6, nI_add]
theorem L_551 {z L : Nat} {xs : Nat → Int32} {k18 : Int32 → aM → Option aR} {n i : Nat} {M : aM} {W : cW} (hz : 2000 ≤ z) (hi : i + 6 ≤ L) (hL : L ≤ 3072) (h : RW M W) : ∃ M2 W2, f345_551 z L xs k18 (n + 1) (nI i) M = k18 (nI (i + 6)) M2 ∧ RW M2 W2 := by
  obtain ⟨v, M1, M2, e1, e2, W2, h2⟩ := P_strength (z := z) hz h (xs (nI i + (1 : Int32)).toNatClampNeg) (xs (nI i + (2 : Int32)).toNatClampNeg)
  have j1 : am_inB (nI i + (1 : Int32)) L = true := cs_j (d := 1) (by omega) hL _ rfl
  have j2 : am_inB (nI i + (2 : Int32)) L = true := cs_j (d := 2) (by omega) hL _ rfl
  refine ⟨M2, W2, ?_, h2⟩
  rw [f345_551, if_pos j1, if_pos j2, e1, cb_bi, if_pos j1, if_pos j2, e2, cb_bi, if_pos rfl, cs_6, nI_add]
theorem L_584 {z L : Nat} {xs : Nat → Int32} {k18 : Int32 → aM → Option aR} {n i : Nat} {M : aM} {W : cW} (hz : 2000 ≤ z) (hi : i + 6 ≤ L) (hL : L ≤ 3072) (h : RW M W) : ∃ M2 W2, f345_584 z L xs k18 (n + 1) (nI i) M = k18 (nI (i + 6)) M2 ∧ RW M2 W2 := by
  obtain ⟨v, M1, M2, e1, e2, W2, h2⟩ := P_torn (z := z) hz h (xs (nI i + (1 : Int32)).toNatClampNeg)
  have j1 : am_inB (nI i + (1 : Int32)) L = true := cs_j (d := 1) (by omega) hL _ rfl
  refine ⟨M2, W2, ?_, h2⟩
  rw [f345_584, if_pos j1, e1, cb_bi, if_pos j1, e2, cb_bi, if_pos rfl, cs_6, nI_add]
theorem L_607 {z L : Nat} {xs : Nat → Int32} {k18 : Int32 → aM → Option aR} {n i : Nat} {M : aM} {W : cW} (hz : 2000 ≤ z) (hi : i + 6 ≤ L) (hL : L ≤ 3072) (h : RW M W) : ∃ M2 W2, f345_607 z L xs k18 (n + 1) (nI i) M = k18 (nI (i + 6)) M2 ∧ RW M2 W2 := by
  obtain ⟨v, M1, M2, e1, e2, W2, h2⟩ := P_tears (z := z) hz h (xs (nI i + (1 : Int32)).toNatClampNeg)
  have j1 : am_inB (nI i + (1 : Int32)) L = true := cs_j (d := 1) (by omega) hL _ rfl
  refine ⟨M2, W2, ?_, h2⟩
  rw [f345_607, if_pos j1, e1, cb_bi, if_pos j1, e2, cb_bi, if_pos rfl, cs_6, nI_add]
theorem L_630 {z L : Nat} {xs : Nat → Int32} {k18 : Int32 → aM → Option aR} {n i : Nat} {M : aM} {W : cW} (hz : 2000 ≤ z) (hi : i + 6 ≤ L) (hL : L ≤ 3072) (h : RW M W) : ∃ M2 W2, f345_630 z L xs k18 (n + 1) (nI i) M = k18 (nI (i + 6)) M2 ∧ RW M2 W2 := by
  obtain ⟨v, M1, M2, e1, e2, W2, h2⟩ := P_holes (z := z) hz h (xs (nI i + (1 : Int32)).toNatClampNeg)
  have j1 : am_inB (nI i + (1 : Int32)) L = true := cs_j (d := 1) (by omega) hL _ rfl
  refine ⟨M2, W2, ?_, h2⟩
  rw [f345_630, if_pos j1, e1, cb_bi, if_pos j1, e2, cb_bi, if_pos rfl, cs_6, nI_add]
theorem L_653 {z L : Nat} {xs : Nat → Int32} {k18 : Int32 → aM → Option aR} {n i : Nat} {M : aM} {W : cW} (hz : 2000 ≤ z) (hi : i + 6 ≤ L) (hL : L ≤ 3072) (h : RW M W) : ∃ M2 W2, f345_653 z L xs k18 (n + 1) (nI i) M = k18 (nI (i + 6)) M2 ∧ RW M2 W2 := by
  obtain ⟨v, M1, M2, e1, e2, W2, h2⟩ := P_hole (z := z) hz h (xs (nI i + (1 : Int32)).toNatClampNeg)
  have j1 : am_inB (nI i + (1 : Int32)) L = true := cs_j (d := 1) (by omega) hL _ rfl
  refine ⟨M2, W2, ?_, h2⟩
  rw [f345_653, if_pos j1, e1, cb_bi, if_pos j1, e2, cb_bi, if_pos rfl, cs_6, nI_add]
theorem L_676 {z L : Nat} {xs : Nat → Int32} {k18 : Int32 → aM → Option aR} {n i : Nat} {M : aM} {W : cW} (hz : 2000 ≤ z) (hi : i + 6 ≤ L) (hL : L ≤ 3072) (h : RW M W) : ∃ M2 W2, f345_676 z L xs k18 (n + 1) (nI i) M = k18 (nI (i + 6)) M2 ∧ RW M2 W2 := by
  obtain ⟨v, M1, M2, e1, e2, W2, h2⟩ := P_hung (z := z) hz h (xs (nI i + (1 : Int32)).toNatClampNeg)
  have j1 : am_inB (nI i + (1 : Int32)) L = true := cs_j (d := 1) (by omega) hL _ rfl
  refine ⟨M2, W2, ?_, h2⟩
  rw [f345_676, if_pos j1, e1, cb_bi, if_pos j1, e2, cb_bi, if_pos rfl, cs_6, nI_add]
theorem L_699 {z L : Nat} {xs : Nat → Int32} {k18 : Int32 → aM → Option aR} {n i : Nat} {M : aM} {W : cW} (hz : 2000 ≤ z) (hi : i + 6 ≤ L) (hL : L ≤ 3072) (h : RW M W) : ∃ M2 W2, f345_699 z L xs k18 (n + 1) (nI i) M = k18 (nI (i + 6)) M2 ∧ RW M2 W2 := by
  obtain ⟨v, M1, M2, e1, e2, W2, h2⟩ := P_falls (z := z) hz h (xs (nI i + (1 : Int32)).toNatClampNeg)
  have j1 : am_inB (nI i + (1 : Int32)) L = true := cs_j (d := 1) (by omega) hL _ rfl
  refine ⟨M2, W2, ?_, h2⟩
  rw [f345_699, if_pos j1, e1, cb_bi, if_pos j1, e2, cb_bi, if_pos rfl, cs_6, nI_add]
theorem L_722 {z L : Nat} {xs : Nat → Int32} {k18 : Int32 → aM → Option aR} {n i : Nat} {M : aM} {W : cW} (hz : 2000 ≤ z) (hi : i + 6 ≤ L) (hL : L ≤ 3072) (h : RW M W) : ∃ M2 W2, f345_722 z L xs k18 (n + 1) (nI i) M = k18 (nI (i + 6)) M2 ∧ RW M2 W2 := by
  obtain ⟨v, M1, M2, e1, e2, W2, h2⟩ := P_sum (z := z) hz h (xs (nI i + (1 : Int32)).toNatClampNeg)
  have j1 : am_inB (nI i + (1 : Int32)) L = true := cs_j (d := 1) (by omega) hL _ rfl
  refine ⟨M2, W2, ?_, h2⟩
  rw [f345_722, if_pos j1, e1, cb_bi, if_pos j1, e2, cb_bi, if_pos rfl, cs_6, nI_add]
theorem L_745 {z L : Nat} {xs : Nat → Int32} {k18 : Int32 → aM → Option aR} {n i : Nat} {M : aM} {W : cW} (hz : 2000 ≤ z) (hi : i + 6 ≤ L) (hL : L ≤ 3072) (h : RW M W) : ∃ M2 W2, f345_745 z L xs k18 (n + 1) (nI i) M = k18 (nI (i + 6)) M2 ∧ RW M2 W2 := by
  obtain ⟨v, M1, M2, e1, e2, W2, h2⟩ := P_strongest (z := z) hz h (xs (nI i + (1 : Int32)).toNatClampNeg)
  have j1 : am_inB (nI i + (1 : Int32)) L = true := cs_j (d := 1) (by omega) hL _ rfl
  refine ⟨M2, W2, ?_, h2⟩
  rw [f345_745, if_pos j1, e1, cb_bi, if_pos j1, e2, cb_bi, if_pos rfl, cs_6, nI_add]
theorem L_768 {z L : Nat} {xs : Nat → Int32} {k18 : Int32 → aM → Option aR} {n i : Nat} {M : aM} {W : cW} (hz : 2000 ≤ z) (hi : i + 6 ≤ L) (hL : L ≤ 3072) (h : RW M W) : ∃ M2 W2, f345_768 z L xs k18 (n + 1) (nI i) M = k18 (nI (i + 6)) M2 ∧ RW M2 W2 := by
  obtain ⟨v, M1, M2, e1, e2, W2, h2⟩ := P_weakest (z := z) hz h (xs (nI i + (1 : Int32)).toNatClampNeg)
  have j1 : am_inB (nI i + (1 : Int32)) L = true := cs_j (d := 1) (by omega) hL _ rfl
  refine ⟨M2, W2, ?_, h2⟩
  rw [f345_768, if_pos j1, e1, cb_bi, if_pos j1, e2, cb_bi, if_pos rfl, cs_6, nI_add]
theorem L_791 {z L : Nat} {xs : Nat → Int32} {k18 : Int32 → aM → Option aR} {n i : Nat} {M : aM} {W : cW} (hz : 2000 ≤ z) (hi : i + 6 ≤ L) (hL : L ≤ 3072) (h : RW M W) : ∃ M2 W2, f345_791 z L xs k18 (n + 1) (nI i) M = k18 (nI (i + 6)) M2 ∧ RW M2 W2 := by
  obtain ⟨v, M1, M2, e1, e2, W2, h2⟩ := P_loses (z := z) hz h (xs (nI i + (1 : Int32)).toNatClampNeg)
  have j1 : am_inB (nI i + (1 : Int32)) L = true := cs_j (d := 1) (by omega) hL _ rfl
  refine ⟨M2, W2, ?_, h2⟩
  rw [f345_791, if_pos j1, e1, cb_bi, if_pos j1, e2, cb_bi, if_pos rfl, cs_6, nI_add]
theorem L_814 {z L : Nat} {xs : Nat → Int32} {k18 : Int32 → aM → Option aR} {n i : Nat} {M : aM} {W : cW} (hz : 2000 ≤ z) (hi : i + 6 ≤ L) (hL : L ≤ 3072) (h : RW M W) : ∃ M2 W2, f345_814 z L xs k18 (n + 1) (nI i) M = k18 (nI (i + 6)) M2 ∧ RW M2 W2 := by
  obtain ⟨v, M1, M2, e1, e2, W2, h2⟩ := P_bare (z := z) hz h (xs (nI i + (1 : Int32)).toNatClampNeg)
  have j1 : am_inB (nI i + (1 : Int32)) L = true := cs_j (d := 1) (by omega) hL _ rfl
  refine ⟨M2, W2, ?_, h2⟩
  rw [f345_814, if_pos j1, e1, cb_bi, if_pos j1, e2, cb_bi, if_pos rfl, cs_6, nI_add]
theorem L_837 {z L : Nat} {xs : Nat → Int32} {k18 : Int32 → aM → Option aR} {n i : Nat} {M : aM} {W : cW} (hz : 2000 ≤ z) (hi : i + 6 ≤ L) (hL : L ≤ 3072) (h : RW M W) : ∃ M2 W2, f345_837 z L xs k18 (n + 1) (nI i) M = k18 (nI (i + 6)) M2 ∧ RW M2 W2 := by
  obtain ⟨v, M1, M2, e1, e2, W2, h2⟩ := P_frail (z := z) hz h 
  refine ⟨M2, W2, ?_, h2⟩
  rw [f345_837, e1, cb_bi, e2, cb_bi, if_pos rfl, cs_6, nI_add]
theorem L_850 {z L : Nat} {xs : Nat → Int32} {k18 : Int32 → aM → Option aR} {n i : Nat} {M : aM} {W : cW} (hz : 2000 ≤ z) (hi : i + 6 ≤ L) (hL : L ≤ 3072) (h : RW M W) : ∃ M2 W2, f345_850 z L xs k18 (n + 1) (nI i) M = k18 (nI (i + 6)) M2 ∧ RW M2 W2 := by
  obtain ⟨v, M1, M2, e1, e2, W2, h2⟩ := P_stuff (z := z) hz h (xs (nI i + (1 : Int32)).toNatClampNeg) (xs (nI i + (2 : Int32)).toNatClampNeg)
  have j1 : am_inB (nI i + (1 : Int32)) L = true := cs_j (d := 1) (by omega) hL _ rfl
  have j2 : am_inB (nI i + (2 : Int32)) L = true := cs_j (d := 2) (by omega) hL _ rfl
  refine ⟨M2, W2, ?_, h2⟩
  rw [f345_850, if_pos j1, if_pos j2, e1, cb_bi, if_pos j1, if_pos j2, e2, cb_bi, if_pos rfl, cs_6, nI_add]
theorem L_883 {z L : Nat} {xs : Nat → Int32} {k18 : Int32 → aM → Option aR} {n i : Nat} {M : aM} {W : cW} (hz : 2000 ≤ z) (hi : i + 6 ≤ L) (hL : L ≤ 3072) (h : RW M W) : ∃ M2 W2, f345_883 z L xs k18 (n + 1) (nI i) M = k18 (nI (i + 6)) M2 ∧ RW M2 W2 := by
  obtain ⟨v, M1, M2, e1, e2, W2, h2⟩ := P_steps (z := z) hz h (xs (nI i + (1 : Int32)).toNatClampNeg) (xs (nI i + (2 : Int32)).toNatClampNeg)
  have j1 : am_inB (nI i + (1 : Int32)) L = true := cs_j (d := 1) (by omega) hL _ rfl
  have j2 : am_inB (nI i + (2 : Int32)) L = true := cs_j (d := 2) (by omega) hL _ rfl
  refine ⟨M2, W2, ?_, h2⟩
  rw [f345_883, if_pos j1, if_pos j2, e1, cb_bi, if_pos j1, if_pos j2, e2, cb_bi, if_pos rfl, cs_6, nI_add]
theorem L_916 {z L : Nat} {xs : Nat → Int32} {k18 : Int32 → aM → Option aR} {n i : Nat} {M : aM} {W : cW} (hz : 2000 ≤ z) (hi : i + 6 ≤ L) (hL : L ≤ 3072) (h : RW M W) : ∃ M2 W2, f345_916 z L xs k18 (n + 1) (nI i) M = k18 (nI (i + 6)) M2 ∧ RW M2 W2 := by
  obtain ⟨v, M1, M2, e1, e2, W2, h2⟩ := P_has (z := z) hz h (xs (nI i + (1 : Int32)).toNatClampNeg) (xs (nI i + (2 : Int32)).toNatClampNeg)
  have j1 : am_inB (nI i + (1 : Int32)) L = true := cs_j (d := 1) (by omega) hL _ rfl
  have j2 : am_inB (nI i + (2 : Int32)) L = true := cs_j (d := 2) (by omega) hL _ rfl
  refine ⟨M2, W2, ?_, h2⟩
  rw [f345_916, if_pos j1, if_pos j2, e1, cb_bi, if_pos j1, if_pos j2, e2, cb_bi, if_pos rfl, cs_6, nI_add]
theorem L_949 {z L : Nat} {xs : Nat → Int32} {k18 : Int32 → aM → Option aR} {n i : Nat} {M : aM} {W : cW} (hz : 2000 ≤ z) (hi : i + 6 ≤ L) (hL : L ≤ 3072) (h : RW M W) : ∃ M2 W2, f345_949 z L xs k18 (n + 1) (nI i) M = k18 (nI (i + 6)) M2 ∧ RW M2 W2 := by
  obtain ⟨v, M1, M2, e1, e2, W2, h2⟩ := P_pulls (z := z) hz h (xs (nI i + (1 : Int32)).toNatClampNeg)
  have j1 : am_inB (nI i + (1 : Int32)) L = true := cs_j (d := 1) (by omega) hL _ rfl
  refine ⟨M2, W2, ?_, h2⟩
  rw [f345_949, if_pos j1, e1, cb_bi, if_pos j1, e2, cb_bi, if_pos rfl, cs_6, nI_add]
theorem L_972 {z L : Nat} {xs : Nat → Int32} {k18 : Int32 → aM → Option aR} {n i : Nat} {M : aM} {W : cW} (hz : 2000 ≤ z) (hi : i + 6 ≤ L) (hL : L ≤ 3072) (h : RW M W) : ∃ M2 W2, f345_972 z L xs k18 (n + 1) (nI i) M = k18 (nI (i + 6)) M2 ∧ RW M2 W2 := by
  obtain ⟨v, M1, M2, e1, e2, W2, h2⟩ := P_rips (z := z) hz h (xs (nI i + (1 : Int32)).toNatClampNeg)
  have j1 : am_inB (nI i + (1 : Int32)) L = true := cs_j (d := 1) (by omega) hL _ rfl
  refine ⟨M2, W2, ?_, h2⟩
  rw [f345_972, if_pos j1, e1, cb_bi, if_pos j1, e2, cb_bi, if_pos rfl, cs_6, nI_add]
theorem L_995 {z L : Nat} {xs : Nat → Int32} {k18 : Int32 → aM → Option aR} {n i : Nat} {M : aM} {W : cW} (hz : 2000 ≤ z) (hi : i + 6 ≤ L) (hL : L ≤ 3072) (h : RW M W) : ∃ M2 W2, f345_995 z L xs k18 (n + 1) (nI i) M = k18 (nI (i + 6)) M2 ∧ RW M2 W2 := by
  obtain ⟨v, M1, M2, e1, e2, W2, h2⟩ := P_through (z := z) hz h (xs (nI i + (1 : Int32)).toNatClampNeg)
  have j1 : am_inB (nI i + (1 : Int32)) L = true := cs_j (d := 1) (by omega) hL _ rfl
  refine ⟨M2, W2, ?_, h2⟩
  rw [f345_995, if_pos j1, e1, cb_bi, if_pos j1, e2, cb_bi, if_pos rfl, cs_6, nI_add]
theorem L_1018 {z L : Nat} {xs : Nat → Int32} {k18 : Int32 → aM → Option aR} {n i : Nat} {M : aM} {W : cW} (hz : 2000 ≤ z) (hi : i + 6 ≤ L) (hL : L ≤ 3072) (h : RW M W) : ∃ M2 W2, f345_1018 z L xs k18 (n + 1) (nI i) M = k18 (nI (i + 6)) M2 ∧ RW M2 W2 := by
  obtain ⟨v, M1, M2, e1, e2, W2, h2⟩ := P_hem (z := z) hz h (xs (nI i + (1 : Int32)).toNatClampNeg)
  have j1 : am_inB (nI i + (1 : Int32)) L = true := cs_j (d := 1) (by omega) hL _ rfl
  refine ⟨M2, W2, ?_, h2⟩
  rw [f345_1018, if_pos j1, e1, cb_bi, if_pos j1, e2, cb_bi, if_pos rfl, cs_6, nI_add]
theorem L_1041 {z L : Nat} {xs : Nat → Int32} {k18 : Int32 → aM → Option aR} {n i : Nat} {M : aM} {W : cW} (hz : 2000 ≤ z) (hi : i + 6 ≤ L) (hL : L ≤ 3072) (h : RW M W) : ∃ M2 W2, f345_1041 z L xs k18 (n + 1) (nI i) M = k18 (nI (i + 6)) M2 ∧ RW M2 W2 := by
  obtain ⟨v, M1, M2, e1, e2, W2, h2⟩ := P_loud (z := z) hz h 
  refine ⟨M2, W2, ?_, h2⟩
  rw [f345_1041, e1, cb_bi, e2, cb_bi, if_pos rfl, cs_6, nI_add]
theorem L_1054 {z L : Nat} {xs : Nat → Int32} {k18 : Int32 → aM → Option aR} {n i : Nat} {M : aM} {W : cW} (hz : 2000 ≤ z) (hi : i + 6 ≤ L) (hL : L ≤ 3072) (h : RW M W) : ∃ M2 W2, f345_1054 z L xs k18 (n + 1) (nI i) M = k18 (nI (i + 6)) M2 ∧ RW M2 W2 := by
  obtain ⟨v, M1, M2, e1, e2, W2, h2⟩ := P_worst (z := z) hz h 
  refine ⟨M2, W2, ?_, h2⟩
  rw [f345_1054, e1, cb_bi, e2, cb_bi, if_pos rfl, cs_6, nI_add]
theorem L_1067 {z L : Nat} {xs : Nat → Int32} {k18 : Int32 → aM → Option aR} {n i : Nat} {M : aM} {W : cW} (hz : 2000 ≤ z) (hi : i + 6 ≤ L) (hL : L ≤ 3072) (h : RW M W) : ∃ M2 W2, f345_1067 z L xs k18 (n + 1) (nI i) M = k18 (nI (i + 6)) M2 ∧ RW M2 W2 := by
  obtain ⟨v, M1, M2, e1, e2, W2, h2⟩ := P_bears (z := z) hz h (xs (nI i + (1 : Int32)).toNatClampNeg)
  have j1 : am_inB (nI i + (1 : Int32)) L = true := cs_j (d := 1) (by omega) hL _ rfl
  refine ⟨M2, W2, ?_, h2⟩
  rw [f345_1067, if_pos j1, e1, cb_bi, if_pos j1, e2, cb_bi, if_pos rfl, cs_6, nI_add]
theorem L_1090 {z L : Nat} {xs : Nat → Int32} {k18 : Int32 → aM → Option aR} {n i : Nat} {M : aM} {W : cW} (hz : 2000 ≤ z) (hi : i + 6 ≤ L) (hL : L ≤ 3072) (h : RW M W) : ∃ M2 W2, f345_1090 z L xs k18 (n + 1) (nI i) M = k18 (nI (i + 6)) M2 ∧ RW M2 W2 := by
  obtain ⟨v, M1, M2, e1, e2, W2, h2⟩ := P_worn (z := z) hz h (xs (nI i + (1 : Int32)).toNatClampNeg)
  have j1 : am_inB (nI i + (1 : Int32)) L = true := cs_j (d := 1) (by omega) hL _ rfl
  refine ⟨M2, W2, ?_, h2⟩
  rw [f345_1090, if_pos j1, e1, cb_bi, if_pos j1, e2, cb_bi, if_pos rfl, cs_6, nI_add]
theorem L_1113 {z L : Nat} {xs : Nat → Int32} {k18 : Int32 → aM → Option aR} {n i : Nat} {M : aM} {W : cW} (hz : 2000 ≤ z) (hi : i + 6 ≤ L) (hL : L ≤ 3072) (h : RW M W) : ∃ M2 W2, f345_1113 z L xs k18 (n + 1) (nI i) M = k18 (nI (i + 6)) M2 ∧ RW M2 W2 := by
  obtain ⟨v, M1, M2, e1, e2, W2, h2⟩ := P_idle (z := z) hz h 
  refine ⟨M2, W2, ?_, h2⟩
  rw [f345_1113, e1, cb_bi, e2, cb_bi, if_pos rfl, cs_6, nI_add]
theorem L_1126 {z L : Nat} {xs : Nat → Int32} {k18 : Int32 → aM → Option aR} {n i : Nat} {M : aM} {W : cW} (hz : 2000 ≤ z) (hi : i + 6 ≤ L) (hL : L ≤ 3072) (h : RW M W) : ∃ M2 W2, f345_1126 z L xs k18 (n + 1) (nI i) M = k18 (nI (i + 6)) M2 ∧ RW M2 W2 := by
  obtain ⟨v, M1, M2, e1, e2, W2, h2⟩ := P_tries (z := z) hz h (xs (nI i + (1 : Int32)).toNatClampNeg) (xs (nI i + (2 : Int32)).toNatClampNeg) (xs (nI i + (3 : Int32)).toNatClampNeg)
  have j1 : am_inB (nI i + (1 : Int32)) L = true := cs_j (d := 1) (by omega) hL _ rfl
  have j2 : am_inB (nI i + (2 : Int32)) L = true := cs_j (d := 2) (by omega) hL _ rfl
  have j3 : am_inB (nI i + (3 : Int32)) L = true := cs_j (d := 3) (by omega) hL _ rfl
  refine ⟨M2, W2, ?_, h2⟩
  rw [f345_1126, if_pos j1, if_pos j2, if_pos j3, e1, cb_bi, if_pos j1, if_pos j2, if_pos j3, e2, cb_bi, if_pos rfl, cs_6, nI_add]
theorem L_1169 {z L : Nat} {xs : Nat → Int32} {k18 : Int32 → aM → Option aR} {n i : Nat} {M : aM} {W : cW} (hz : 2000 ≤ z) (hi : i + 6 ≤ L) (hL : L ≤ 3072) (h : RW M W) : ∃ M2 W2, f345_1169 z L xs k18 (n + 1) (nI i) M = k18 (nI (i + 6)) M2 ∧ RW M2 W2 := by
  obtain ⟨v, M1, M2, e1, e2, W2, h2⟩ := P_would (z := z) hz h (xs (nI i + (1 : Int32)).toNatClampNeg) (xs (nI i + (2 : Int32)).toNatClampNeg) (xs (nI i + (3 : Int32)).toNatClampNeg) (xs (nI i + (4 : Int32)).toNatClampNeg)
  have j1 : am_inB (nI i + (1 : Int32)) L = true := cs_j (d := 1) (by omega) hL _ rfl
  have j2 : am_inB (nI i + (2 : Int32)) L = true := cs_j (d := 2) (by omega) hL _ rfl
  have j3 : am_inB (nI i + (3 : Int32)) L = true := cs_j (d := 3) (by omega) hL _ rfl
  have j4 : am_inB (nI i + (4 : Int32)) L = true := cs_j (d := 4) (by omega) hL _ rfl
  refine ⟨M2, W2, ?_, h2⟩
  rw [f345_1169, if_pos j1, if_pos j2, if_pos j3, if_pos j4, e1, cb_bi, if_pos j1, if_pos j2, if_pos j3, if_pos j4, e2, cb_bi, if_pos rfl, cs_6, nI_add]
theorem L_1222 {z L : Nat} {xs : Nat → Int32} {k18 : Int32 → aM → Option aR} {n i : Nat} {M : aM} {W : cW} (hz : 2000 ≤ z) (hi : i + 6 ≤ L) (hL : L ≤ 3072) (h : RW M W) : ∃ M2 W2, f345_1222 z L xs k18 (n + 1) (nI i) M = k18 (nI (i + 6)) M2 ∧ RW M2 W2 := by
  obtain ⟨v, M1, M2, e1, e2, W2, h2⟩ := P_lets (z := z) hz h (xs (nI i + (1 : Int32)).toNatClampNeg) (xs (nI i + (2 : Int32)).toNatClampNeg) (xs (nI i + (3 : Int32)).toNatClampNeg)
  have j1 : am_inB (nI i + (1 : Int32)) L = true := cs_j (d := 1) (by omega) hL _ rfl
  have j2 : am_inB (nI i + (2 : Int32)) L = true := cs_j (d := 2) (by omega) hL _ rfl
  have j3 : am_inB (nI i + (3 : Int32)) L = true := cs_j (d := 3) (by omega) hL _ rfl
  refine ⟨M2, W2, ?_, h2⟩
  rw [f345_1222, if_pos j1, if_pos j2, if_pos j3, e1, cb_bi, if_pos j1, if_pos j2, if_pos j3, e2, cb_bi, if_pos rfl, cs_6, nI_add]
theorem L_1265 {z L : Nat} {xs : Nat → Int32} {k18 : Int32 → aM → Option aR} {n i : Nat} {M : aM} {W : cW} (hz : 2000 ≤ z) (hi : i + 6 ≤ L) (hL : L ≤ 3072) (h : RW M W) : ∃ M2 W2, f345_1265 z L xs k18 (n + 1) (nI i) M = k18 (nI (i + 6)) M2 ∧ RW M2 W2 := by
  obtain ⟨v, M1, M2, e1, e2, W2, h2⟩ := P_gate (z := z) hz h (xs (nI i + (1 : Int32)).toNatClampNeg) (xs (nI i + (2 : Int32)).toNatClampNeg)
  have j1 : am_inB (nI i + (1 : Int32)) L = true := cs_j (d := 1) (by omega) hL _ rfl
  have j2 : am_inB (nI i + (2 : Int32)) L = true := cs_j (d := 2) (by omega) hL _ rfl
  refine ⟨M2, W2, ?_, h2⟩
  rw [f345_1265, if_pos j1, if_pos j2, e1, cb_bi, if_pos j1, if_pos j2, e2, cb_bi, if_pos rfl, cs_6, nI_add]
theorem L_1298 {z L : Nat} {xs : Nat → Int32} {k18 : Int32 → aM → Option aR} {n i : Nat} {M : aM} {W : cW} (hz : 2000 ≤ z) (hi : i + 6 ≤ L) (hL : L ≤ 3072) (h : RW M W) : ∃ M2 W2, f345_1298 z L xs k18 (n + 1) (nI i) M = k18 (nI (i + 6)) M2 ∧ RW M2 W2 := by
  obtain ⟨v, M1, M2, e1, e2, W2, h2⟩ := P_soft (z := z) hz h (xs (nI i + (1 : Int32)).toNatClampNeg)
  have j1 : am_inB (nI i + (1 : Int32)) L = true := cs_j (d := 1) (by omega) hL _ rfl
  refine ⟨M2, W2, ?_, h2⟩
  rw [f345_1298, if_pos j1, e1, cb_bi, if_pos j1, e2, cb_bi, if_pos rfl, cs_6, nI_add]
theorem L_1321 {z L : Nat} {xs : Nat → Int32} {k18 : Int32 → aM → Option aR} {n i : Nat} {M : aM} {W : cW} (hz : 2000 ≤ z) (hi : i + 6 ≤ L) (hL : L ≤ 3072) (h : RW M W) : ∃ M2 W2, f345_1321 z L xs k18 (n + 1) (nI i) M = k18 (nI (i + 6)) M2 ∧ RW M2 W2 := by
  obtain ⟨v, M1, M2, e1, e2, W2, h2⟩ := P_bursts (z := z) hz h (xs (nI i + (1 : Int32)).toNatClampNeg) (xs (nI i + (2 : Int32)).toNatClampNeg)
  have j1 : am_inB (nI i + (1 : Int32)) L = true := cs_j (d := 1) (by omega) hL _ rfl
  have j2 : am_inB (nI i + (2 : Int32)) L = true := cs_j (d := 2) (by omega) hL _ rfl
  refine ⟨M2, W2, ?_, h2⟩
  rw [f345_1321, if_pos j1, if_pos j2, e1, cb_bi, if_pos j1, if_pos j2, e2, cb_bi, if_pos rfl, cs_6, nI_add]
theorem L_1354 {z L : Nat} {xs : Nat → Int32} {k18 : Int32 → aM → Option aR} {n i : Nat} {M : aM} {W : cW} (hz : 2000 ≤ z) (hi : i + 6 ≤ L) (hL : L ≤ 3072) (h : RW M W) : ∃ M2 W2, f345_1354 z L xs k18 (n + 1) (nI i) M = k18 (nI (i + 6)) M2 ∧ RW M2 W2 := by
  obtain ⟨v, M1, M2, e1, e2, W2, h2⟩ := P_word (z := z) hz h (xs (nI i + (1 : Int32)).toNatClampNeg) (xs (nI i + (2 : Int32)).toNatClampNeg)
  have j1 : am_inB (nI i + (1 : Int32)) L = true := cs_j (d := 1) (by omega) hL _ rfl
  have j2 : am_inB (nI i + (2 : Int32)) L = true := cs_j (d := 2) (by omega) hL _ rfl
  refine ⟨M2, W2, ?_, h2⟩
  rw [f345_1354, if_pos j1, if_pos j2, e1, cb_bi, if_pos j1, if_pos j2, e2, cb_bi, if_pos rfl, cs_6, nI_add]
theorem L_1387 {z L : Nat} {xs : Nat → Int32} {k18 : Int32 → aM → Option aR} {n i : Nat} {M : aM} {W : cW} (hz : 2000 ≤ z) (hi : i + 6 ≤ L) (hL : L ≤ 3072) (h : RW M W) : ∃ M2 W2, f345_1387 z L xs k18 (n + 1) (nI i) M = k18 (nI (i + 6)) M2 ∧ RW M2 W2 := by
  obtain ⟨v, M1, M2, e1, e2, W2, h2⟩ := P_darn (z := z) hz h (xs (nI i + (1 : Int32)).toNatClampNeg)
  have j1 : am_inB (nI i + (1 : Int32)) L = true := cs_j (d := 1) (by omega) hL _ rfl
  refine ⟨M2, W2, ?_, h2⟩
  rw [f345_1387, if_pos j1, e1, cb_bi, if_pos j1, e2, cb_bi, if_pos rfl, cs_6, nI_add]
theorem L_1410 {z L : Nat} {xs : Nat → Int32} {k18 : Int32 → aM → Option aR} {n i : Nat} {M : aM} {W : cW} (hz : 2000 ≤ z) (hi : i + 6 ≤ L) (hL : L ≤ 3072) (h : RW M W) : ∃ M2 W2, f345_1410 z L xs k18 (n + 1) (nI i) M = k18 (nI (i + 6)) M2 ∧ RW M2 W2 := by
  obtain ⟨v, M1, M2, e1, e2, W2, h2⟩ := P_mend (z := z) hz h (xs (nI i + (1 : Int32)).toNatClampNeg)
  have j1 : am_inB (nI i + (1 : Int32)) L = true := cs_j (d := 1) (by omega) hL _ rfl
  refine ⟨M2, W2, ?_, h2⟩
  rw [f345_1410, if_pos j1, e1, cb_bi, if_pos j1, e2, cb_bi, if_pos rfl, cs_6, nI_add]
theorem L_1433 {z L : Nat} {xs : Nat → Int32} {k18 : Int32 → aM → Option aR} {n i : Nat} {M : aM} {W : cW} (hz : 2000 ≤ z) (hi : i + 6 ≤ L) (hL : L ≤ 3072) (h : RW M W) : ∃ M2 W2, f345_1433 z L xs k18 (n + 1) (nI i) M = k18 (nI (i + 6)) M2 ∧ RW M2 W2 := by
  obtain ⟨v, M1, M2, e1, e2, W2, h2⟩ := P_cut (z := z) hz h (xs (nI i + (1 : Int32)).toNatClampNeg) (xs (nI i + (2 : Int32)).toNatClampNeg)
  have j1 : am_inB (nI i + (1 : Int32)) L = true := cs_j (d := 1) (by omega) hL _ rfl
  have j2 : am_inB (nI i + (2 : Int32)) L = true := cs_j (d := 2) (by omega) hL _ rfl
  refine ⟨M2, W2, ?_, h2⟩
  rw [f345_1433, if_pos j1, if_pos j2, e1, cb_bi, if_pos j1, if_pos j2, e2, cb_bi, if_pos rfl, cs_6, nI_add]
theorem L_1466 {z L : Nat} {xs : Nat → Int32} {k18 : Int32 → aM → Option aR} {n i : Nat} {M : aM} {W : cW} (hz : 2000 ≤ z) (hi : i + 6 ≤ L) (hL : L ≤ 3072) (h : RW M W) : ∃ M2 W2, f345_1466 z L xs k18 (n + 1) (nI i) M = k18 (nI (i + 6)) M2 ∧ RW M2 W2 := by
  obtain ⟨v, M1, M2, e1, e2, W2, h2⟩ := P_keys (z := z) hz h (xs (nI i + (1 : Int32)).toNatClampNeg) (xs (nI i + (2 : Int32)).toNatClampNeg)
  have j1 : am_inB (nI i + (1 : Int32)) L = true := cs_j (d := 1) (by omega) hL _ rfl
  have j2 : am_inB (nI i + (2 : Int32)) L = true := cs_j (d := 2) (by omega) hL _ rfl
  refine ⟨M2, W2, ?_, h2⟩
  rw [f345_1466, if_pos j1, if_pos j2, e1, cb_bi, if_pos j1, if_pos j2, e2, cb_bi, if_pos rfl, cs_6, nI_add]
theorem L_1499 {z L : Nat} {xs : Nat → Int32} {k18 : Int32 → aM → Option aR} {n i : Nat} {M : aM} {W : cW} (hz : 2000 ≤ z) (hi : i + 6 ≤ L) (hL : L ≤ 3072) (h : RW M W) : ∃ M2 W2, f345_1499 z L xs k18 (n + 1) (nI i) M = k18 (nI (i + 6)) M2 ∧ RW M2 W2 := by
  obtain ⟨v, M1, M2, e1, e2, W2, h2⟩ := P_blame (z := z) hz h 
  refine ⟨M2, W2, ?_, h2⟩
  rw [f345_1499, e1, cb_bi, e2, cb_bi, if_pos rfl, cs_6, nI_add]
theorem L_1512 {z L : Nat} {xs : Nat → Int32} {k18 : Int32 → aM → Option aR} {n i : Nat} {M : aM} {W : cW} (hz : 2000 ≤ z) (hi : i + 6 ≤ L) (hL : L ≤ 3072) (h : RW M W) : ∃ M2 W2, f345_1512 z L xs k18 (n + 1) (nI i) M = k18 (nI (i + 6)) M2 ∧ RW M2 W2 := by
  obtain ⟨v, M1, M2, e1, e2, W2, h2⟩ := P_dear (z := z) hz h 
  refine ⟨M2, W2, ?_, h2⟩
  rw [f345_1512, e1, cb_bi, e2, cb_bi, if_pos rfl, cs_6, nI_add]
theorem L_1525 {z L : Nat} {xs : Nat → Int32} {k18 : Int32 → aM → Option aR} {n i : Nat} {M : aM} {W : cW} (hz : 2000 ≤ z) (hi : i + 6 ≤ L) (hL : L ≤ 3072) (h : RW M W) : ∃ M2 W2, f345_1525 z L xs k18 (n + 1) (nI i) M = k18 (nI (i + 6)) M2 ∧ RW M2 W2 := by
  obtain ⟨v, M1, M2, e1, e2, W2, h2⟩ := P_worse (z := z) hz h 
  refine ⟨M2, W2, ?_, h2⟩
  rw [f345_1525, e1, cb_bi, e2, cb_bi, if_pos rfl, cs_6, nI_add]
theorem L_1538 {z L : Nat} {xs : Nat → Int32} {k18 : Int32 → aM → Option aR} {n i : Nat} {M : aM} {W : cW} (hz : 2000 ≤ z) (hi : i + 6 ≤ L) (hL : L ≤ 3072) (h : RW M W) : ∃ M2 W2, f345_1538 z L xs k18 (n + 1) (nI i) M = k18 (nI (i + 6)) M2 ∧ RW M2 W2 := by
  obtain ⟨v, M1, M2, e1, e2, W2, h2⟩ := P_fits (z := z) hz h (xs (nI i + (1 : Int32)).toNatClampNeg) (xs (nI i + (2 : Int32)).toNatClampNeg)
  have j1 : am_inB (nI i + (1 : Int32)) L = true := cs_j (d := 1) (by omega) hL _ rfl
  have j2 : am_inB (nI i + (2 : Int32)) L = true := cs_j (d := 2) (by omega) hL _ rfl
  refine ⟨M2, W2, ?_, h2⟩
  rw [f345_1538, if_pos j1, if_pos j2, e1, cb_bi, if_pos j1, if_pos j2, e2, cb_bi, if_pos rfl, cs_6, nI_add]
theorem L_1571 {z L : Nat} {xs : Nat → Int32} {k18 : Int32 → aM → Option aR} {n i : Nat} {M : aM} {W : cW} (hz : 2000 ≤ z) (hi : i + 6 ≤ L) (hL : L ≤ 3072) (h : RW M W) : ∃ M2 W2, f345_1571 z L xs k18 (n + 1) (nI i) M = k18 (nI (i + 6)) M2 ∧ RW M2 W2 := by
  obtain ⟨v, M1, M2, e1, e2, W2, h2⟩ := P_least (z := z) hz h (xs (nI i + (1 : Int32)).toNatClampNeg) (xs (nI i + (2 : Int32)).toNatClampNeg)
  have j1 : am_inB (nI i + (1 : Int32)) L = true := cs_j (d := 1) (by omega) hL _ rfl
  have j2 : am_inB (nI i + (2 : Int32)) L = true := cs_j (d := 2) (by omega) hL _ rfl
  refine ⟨M2, W2, ?_, h2⟩
  rw [f345_1571, if_pos j1, if_pos j2, e1, cb_bi, if_pos j1, if_pos j2, e2, cb_bi, if_pos rfl, cs_6, nI_add]
theorem L_1604 {z L : Nat} {xs : Nat → Int32} {k18 : Int32 → aM → Option aR} {n i : Nat} {M : aM} {W : cW} (hz : 2000 ≤ z) (hi : i + 6 ≤ L) (hL : L ≤ 3072) (h : RW M W) : ∃ M2 W2, f345_1604 z L xs k18 (n + 1) (nI i) M = k18 (nI (i + 6)) M2 ∧ RW M2 W2 := by
  obtain ⟨v, M1, M2, e1, e2, W2, h2⟩ := P_greatest (z := z) hz h (xs (nI i + (1 : Int32)).toNatClampNeg) (xs (nI i + (2 : Int32)).toNatClampNeg)
  have j1 : am_inB (nI i + (1 : Int32)) L = true := cs_j (d := 1) (by omega) hL _ rfl
  have j2 : am_inB (nI i + (2 : Int32)) L = true := cs_j (d := 2) (by omega) hL _ rfl
  refine ⟨M2, W2, ?_, h2⟩
  rw [f345_1604, if_pos j1, if_pos j2, e1, cb_bi, if_pos j1, if_pos j2, e2, cb_bi, if_pos rfl, cs_6, nI_add]
theorem L_1637 {z L : Nat} {xs : Nat → Int32} {k18 : Int32 → aM → Option aR} {n i : Nat} {M : aM} {W : cW} (hz : 2000 ≤ z) (hi : i + 6 ≤ L) (hL : L ≤ 3072) (h : RW M W) : ∃ M2 W2, f345_1637 z L xs k18 (n + 1) (nI i) M = k18 (nI (i + 6)) M2 ∧ RW M2 W2 := by
  obtain ⟨v, M1, M2, e1, e2, W2, h2⟩ := P_ask (z := z) hz h (xs (nI i + (1 : Int32)).toNatClampNeg) (xs (nI i + (2 : Int32)).toNatClampNeg)
  have j1 : am_inB (nI i + (1 : Int32)) L = true := cs_j (d := 1) (by omega) hL _ rfl
  have j2 : am_inB (nI i + (2 : Int32)) L = true := cs_j (d := 2) (by omega) hL _ rfl
  refine ⟨M2, W2, ?_, h2⟩
  rw [f345_1637, if_pos j1, if_pos j2, e1, cb_bi, if_pos j1, if_pos j2, e2, cb_bi, if_pos rfl, cs_6, nI_add]
theorem L_1670 {z L : Nat} {xs : Nat → Int32} {k18 : Int32 → aM → Option aR} {n i : Nat} {M : aM} {W : cW} (hz : 2000 ≤ z) (hi : i + 6 ≤ L) (hL : L ≤ 3072) (h : RW M W) : ∃ M2 W2, f345_1670 z L xs k18 (n + 1) (nI i) M = k18 (nI (i + 6)) M2 ∧ RW M2 W2 := by
  obtain ⟨v, M1, M2, e1, e2, W2, h2⟩ := P_leaves (z := z) hz h (xs (nI i + (1 : Int32)).toNatClampNeg) (xs (nI i + (2 : Int32)).toNatClampNeg)
  have j1 : am_inB (nI i + (1 : Int32)) L = true := cs_j (d := 1) (by omega) hL _ rfl
  have j2 : am_inB (nI i + (2 : Int32)) L = true := cs_j (d := 2) (by omega) hL _ rfl
  refine ⟨M2, W2, ?_, h2⟩
  rw [f345_1670, if_pos j1, if_pos j2, e1, cb_bi, if_pos j1, if_pos j2, e2, cb_bi, if_pos rfl, cs_6, nI_add]
theorem L_1703 {z L : Nat} {xs : Nat → Int32} {k18 : Int32 → aM → Option aR} {n i : Nat} {M : aM} {W : cW} (hz : 2000 ≤ z) (hi : i + 6 ≤ L) (hL : L ≤ 3072) (h : RW M W) : ∃ M2 W2, f345_1703 z L xs k18 (n + 1) (nI i) M = k18 (nI (i + 6)) M2 ∧ RW M2 W2 := by
  obtain ⟨v, M1, M2, e1, e2, W2, h2⟩ := P_laws (z := z) hz h (xs (nI i + (1 : Int32)).toNatClampNeg)
  have j1 : am_inB (nI i + (1 : Int32)) L = true := cs_j (d := 1) (by omega) hL _ rfl
  refine ⟨M2, W2, ?_, h2⟩
  rw [f345_1703, if_pos j1, e1, cb_bi, if_pos j1, e2, cb_bi, if_pos rfl, cs_6, nI_add]
theorem L_1726 {z L : Nat} {xs : Nat → Int32} {k18 : Int32 → aM → Option aR} {n i : Nat} {M : aM} {W : cW} (hz : 2000 ≤ z) (hi : i + 6 ≤ L) (hL : L ≤ 3072) (h : RW M W) : ∃ M2 W2, f345_1726 z L xs k18 (n + 1) (nI i) M = k18 (nI (i + 6)) M2 ∧ RW M2 W2 := by
  obtain ⟨v, M1, M2, e1, e2, W2, h2⟩ := P_by (z := z) hz h (xs (nI i + (1 : Int32)).toNatClampNeg)
  have j1 : am_inB (nI i + (1 : Int32)) L = true := cs_j (d := 1) (by omega) hL _ rfl
  refine ⟨M2, W2, ?_, h2⟩
  rw [f345_1726, if_pos j1, e1, cb_bi, if_pos j1, e2, cb_bi, if_pos rfl, cs_6, nI_add]
theorem L_1749 {z L : Nat} {xs : Nat → Int32} {k18 : Int32 → aM → Option aR} {n i : Nat} {M : aM} {W : cW} (hz : 2000 ≤ z) (hi : i + 6 ≤ L) (hL : L ≤ 3072) (h : RW M W) : ∃ M2 W2, f345_1749 z L xs k18 (n + 1) (nI i) M = k18 (nI (i + 6)) M2 ∧ RW M2 W2 := by
  obtain ⟨v, M1, M2, e1, e2, W2, h2⟩ := P_law (z := z) hz h 
  refine ⟨M2, W2, ?_, h2⟩
  rw [f345_1749, e1, cb_bi, e2, cb_bi, if_pos rfl, cs_6, nI_add]
theorem L_1762 {z L : Nat} {xs : Nat → Int32} {k18 : Int32 → aM → Option aR} {n i : Nat} {M : aM} {W : cW} (hz : 2000 ≤ z) (hi : i + 6 ≤ L) (hL : L ≤ 3072) (h : RW M W) : ∃ M2 W2, f345_1762 z L xs k18 (n + 1) (nI i) M = k18 (nI (i + 6)) M2 ∧ RW M2 W2 := by
  obtain ⟨v, M1, M2, e1, e2, W2, h2⟩ := P_worth (z := z) hz h (xs (nI i + (1 : Int32)).toNatClampNeg)
  have j1 : am_inB (nI i + (1 : Int32)) L = true := cs_j (d := 1) (by omega) hL _ rfl
  refine ⟨M2, W2, ?_, h2⟩
  rw [f345_1762, if_pos j1, e1, cb_bi, if_pos j1, e2, cb_bi, if_pos rfl, cs_6, nI_add]
theorem L_1785 {z L : Nat} {xs : Nat → Int32} {k18 : Int32 → aM → Option aR} {n i : Nat} {M : aM} {W : cW} (hz : 2000 ≤ z) (hi : i + 6 ≤ L) (hL : L ≤ 3072) (h : RW M W) : ∃ M2 W2, f345_1785 z L xs k18 (n + 1) (nI i) M = k18 (nI (i + 6)) M2 ∧ RW M2 W2 := by
  obtain ⟨v, M1, M2, e1, e2, W2, h2⟩ := P_share (z := z) hz h (xs (nI i + (1 : Int32)).toNatClampNeg) (xs (nI i + (2 : Int32)).toNatClampNeg)
  have j1 : am_inB (nI i + (1 : Int32)) L = true := cs_j (d := 1) (by omega) hL _ rfl
  have j2 : am_inB (nI i + (2 : Int32)) L = true := cs_j (d := 2) (by omega) hL _ rfl
  refine ⟨M2, W2, ?_, h2⟩
  rw [f345_1785, if_pos j1, if_pos j2, e1, cb_bi, if_pos j1, if_pos j2, e2, cb_bi, if_pos rfl, cs_6, nI_add]
theorem L_1818 {z L : Nat} {xs : Nat → Int32} {k18 : Int32 → aM → Option aR} {n i : Nat} {M : aM} {W : cW} (hz : 2000 ≤ z) (hi : i + 6 ≤ L) (hL : L ≤ 3072) (h : RW M W) : ∃ M2 W2, f345_1818 z L xs k18 (n + 1) (nI i) M = k18 (nI (i + 6)) M2 ∧ RW M2 W2 := by
  obtain ⟨v, M1, M2, e1, e2, W2, h2⟩ := P_rests (z := z) hz h (xs (nI i + (1 : Int32)).toNatClampNeg) (xs (nI i + (2 : Int32)).toNatClampNeg)
  have j1 : am_inB (nI i + (1 : Int32)) L = true := cs_j (d := 1) (by omega) hL _ rfl
  have j2 : am_inB (nI i + (2 : Int32)) L = true := cs_j (d := 2) (by omega) hL _ rfl
  refine ⟨M2, W2, ?_, h2⟩
  rw [f345_1818, if_pos j1, if_pos j2, e1, cb_bi, if_pos j1, if_pos j2, e2, cb_bi, if_pos rfl, cs_6, nI_add]
theorem L_1851 {z L : Nat} {xs : Nat → Int32} {k18 : Int32 → aM → Option aR} {n i : Nat} {M : aM} {W : cW} (hz : 2000 ≤ z) (hi : i + 6 ≤ L) (hL : L ≤ 3072) (h : RW M W) : ∃ M2 W2, f345_1851 z L xs k18 (n + 1) (nI i) M = k18 (nI (i + 6)) M2 ∧ RW M2 W2 := by
  obtain ⟨v, M1, M2, e1, e2, W2, h2⟩ := P_gets (z := z) hz h (xs (nI i + (1 : Int32)).toNatClampNeg) (xs (nI i + (2 : Int32)).toNatClampNeg) (xs (nI i + (3 : Int32)).toNatClampNeg) (xs (nI i + (4 : Int32)).toNatClampNeg)
  have j1 : am_inB (nI i + (1 : Int32)) L = true := cs_j (d := 1) (by omega) hL _ rfl
  have j2 : am_inB (nI i + (2 : Int32)) L = true := cs_j (d := 2) (by omega) hL _ rfl
  have j3 : am_inB (nI i + (3 : Int32)) L = true := cs_j (d := 3) (by omega) hL _ rfl
  have j4 : am_inB (nI i + (4 : Int32)) L = true := cs_j (d := 4) (by omega) hL _ rfl
  refine ⟨M2, W2, ?_, h2⟩
  rw [f345_1851, if_pos j1, if_pos j2, if_pos j3, if_pos j4, e1, cb_bi, if_pos j1, if_pos j2, if_pos j3, if_pos j4, e2, cb_bi, if_pos rfl, cs_6, nI_add]
theorem L_1904 {z L : Nat} {xs : Nat → Int32} {k18 : Int32 → aM → Option aR} {n i : Nat} {M : aM} {W : cW} (hz : 2000 ≤ z) (hi : i + 6 ≤ L) (hL : L ≤ 3072) (h : RW M W) : ∃ M2 W2, f345_1904 z L xs k18 (n + 1) (nI i) M = k18 (nI (i + 6)) M2 ∧ RW M2 W2 := by
  obtain ⟨v, M1, M2, e1, e2, W2, h2⟩ := P_chance (z := z) hz h (xs (nI i + (1 : Int32)).toNatClampNeg) (xs (nI i + (2 : Int32)).toNatClampNeg)
  have j1 : am_inB (nI i + (1 : Int32)) L = true := cs_j (d := 1) (by omega) hL _ rfl
  have j2 : am_inB (nI i + (2 : Int32)) L = true := cs_j (d := 2) (by omega) hL _ rfl
  refine ⟨M2, W2, ?_, h2⟩
  rw [f345_1904, if_pos j1, if_pos j2, e1, cb_bl, if_pos j1, if_pos j2, e2, cb_bl, if_pos (lg_0 _), cs_6, nI_add]
theorem L_1938 {z L : Nat} {xs : Nat → Int32} {k18 : Int32 → aM → Option aR} {n i : Nat} {M : aM} {W : cW} (hz : 2000 ≤ z) (hi : i + 6 ≤ L) (hL : L ≤ 3072) (h : RW M W) : ∃ M2 W2, f345_1938 z L xs k18 (n + 1) (nI i) M = k18 (nI (i + 6)) M2 ∧ RW M2 W2 := by
  obtain ⟨v, M1, M2, e1, e2, W2, h2⟩ := P_mean (z := z) hz h (xs (nI i + (1 : Int32)).toNatClampNeg)
  have j1 : am_inB (nI i + (1 : Int32)) L = true := cs_j (d := 1) (by omega) hL _ rfl
  refine ⟨M2, W2, ?_, h2⟩
  rw [f345_1938, if_pos j1, e1, cb_bl, if_pos j1, e2, cb_bl, if_pos (lg_0 _), cs_6, nI_add]
theorem L_1962 {z L : Nat} {xs : Nat → Int32} {k18 : Int32 → aM → Option aR} {n i : Nat} {M : aM} {W : cW} (hz : 2000 ≤ z) (hi : i + 6 ≤ L) (hL : L ≤ 3072) (h : RW M W) : ∃ M2 W2, f345_1962 z L xs k18 (n + 1) (nI i) M = k18 (nI (i + 6)) M2 ∧ RW M2 W2 := by
  obtain ⟨v, M1, M2, e1, e2, W2, h2⟩ := P_sews (z := z) hz h (xs (nI i + (1 : Int32)).toNatClampNeg) (xs (nI i + (2 : Int32)).toNatClampNeg) (xs (nI i + (3 : Int32)).toNatClampNeg)
  have j1 : am_inB (nI i + (1 : Int32)) L = true := cs_j (d := 1) (by omega) hL _ rfl
  have j2 : am_inB (nI i + (2 : Int32)) L = true := cs_j (d := 2) (by omega) hL _ rfl
  have j3 : am_inB (nI i + (3 : Int32)) L = true := cs_j (d := 3) (by omega) hL _ rfl
  refine ⟨M2, W2, ?_, h2⟩
  rw [f345_1962, if_pos j1, if_pos j2, if_pos j3, e1, cb_bi, if_pos j1, if_pos j2, if_pos j3, e2, cb_bi, if_pos rfl, cs_6, nI_add]
theorem L_2005 {z L : Nat} {xs : Nat → Int32} {k18 : Int32 → aM → Option aR} {n i : Nat} {M : aM} {W : cW} (hz : 2000 ≤ z) (hi : i + 6 ≤ L) (hL : L ≤ 3072) (h : RW M W) : ∃ M2 W2, f345_2005 z L xs k18 (n + 1) (nI i) M = k18 (nI (i + 6)) M2 ∧ RW M2 W2 := by
  obtain ⟨v, M1, M2, e1, e2, W2, h2⟩ := P_quarrels (z := z) hz h (xs (nI i + (1 : Int32)).toNatClampNeg) (xs (nI i + (2 : Int32)).toNatClampNeg) (xs (nI i + (3 : Int32)).toNatClampNeg)
  have j1 : am_inB (nI i + (1 : Int32)) L = true := cs_j (d := 1) (by omega) hL _ rfl
  have j2 : am_inB (nI i + (2 : Int32)) L = true := cs_j (d := 2) (by omega) hL _ rfl
  have j3 : am_inB (nI i + (3 : Int32)) L = true := cs_j (d := 3) (by omega) hL _ rfl
  refine ⟨M2, W2, ?_, h2⟩
  rw [f345_2005, if_pos j1, if_pos j2, if_pos j3, e1, cb_bi, if_pos j1, if_pos j2, if_pos j3, e2, cb_bi, if_pos rfl, cs_6, nI_add]
theorem L_2048 {z L : Nat} {xs : Nat → Int32} {k18 : Int32 → aM → Option aR} {n i : Nat} {M : aM} {W : cW} (hz : 2000 ≤ z) (hi : i + 6 ≤ L) (hL : L ≤ 3072) (h : RW M W) : ∃ M2 W2, f345_2048 z L xs k18 (n + 1) (nI i) M = k18 (nI (i + 6)) M2 ∧ RW M2 W2 := by
  obtain ⟨v, M1, M2, e1, e2, W2, h2⟩ := P_undo (z := z) hz h 
  refine ⟨M2, W2, ?_, h2⟩
  rw [f345_2048, e1, cb_bi, e2, cb_bi, if_pos rfl, cs_6, nI_add]
theorem L_2061 {z L : Nat} {xs : Nat → Int32} {k18 : Int32 → aM → Option aR} {n i : Nat} {M : aM} {W : cW} (hz : 2000 ≤ z) (hi : i + 6 ≤ L) (hL : L ≤ 3072) (h : RW M W) : ∃ M2 W2, f345_2061 z L xs k18 (n + 1) (nI i) M = k18 (nI (i + 6)) M2 ∧ RW M2 W2 := by
  obtain ⟨v, M1, M2, e1, e2, W2, h2⟩ := P_anew (z := z) hz h 
  refine ⟨M2, W2, ?_, h2⟩
  rw [f345_2061, e1, cb_bi, e2, cb_bi, if_pos rfl, cs_6, nI_add]
theorem L_2074 {z L : Nat} {xs : Nat → Int32} {k18 : Int32 → aM → Option aR} {n i : Nat} {M : aM} {W : cW} (hz : 2000 ≤ z) (hi : i + 6 ≤ L) (hL : L ≤ 3072) (h : RW M W) : ∃ M2 W2, f345_2074 z L xs k18 (n + 1) (nI i) M = k18 (nI (i + 6)) M2 ∧ RW M2 W2 := by
  obtain ⟨v, M1, M2, e1, e2, W2, h2⟩ := P_drawn (z := z) hz h (xs (nI i + (1 : Int32)).toNatClampNeg) (xs (nI i + (2 : Int32)).toNatClampNeg)
  have j1 : am_inB (nI i + (1 : Int32)) L = true := cs_j (d := 1) (by omega) hL _ rfl
  have j2 : am_inB (nI i + (2 : Int32)) L = true := cs_j (d := 2) (by omega) hL _ rfl
  refine ⟨M2, W2, ?_, h2⟩
  rw [f345_2074, if_pos j1, if_pos j2, e1, cb_bi, if_pos j1, if_pos j2, e2, cb_bi, if_pos rfl, cs_6, nI_add]
theorem L_2107 {z L : Nat} {xs : Nat → Int32} {k18 : Int32 → aM → Option aR} {n i : Nat} {M : aM} {W : cW} (hz : 2000 ≤ z) (hi : i + 6 ≤ L) (hL : L ≤ 3072) (h : RW M W) : ∃ M2 W2, f345_2107 z L xs k18 (n + 1) (nI i) M = k18 (nI (i + 6)) M2 ∧ RW M2 W2 := by
  obtain ⟨v, M1, M2, e1, e2, W2, h2⟩ := P_luck (z := z) hz h (xs (nI i + (1 : Int32)).toNatClampNeg) (xs (nI i + (2 : Int32)).toNatClampNeg) (xs (nI i + (3 : Int32)).toNatClampNeg)
  have j1 : am_inB (nI i + (1 : Int32)) L = true := cs_j (d := 1) (by omega) hL _ rfl
  have j2 : am_inB (nI i + (2 : Int32)) L = true := cs_j (d := 2) (by omega) hL _ rfl
  have j3 : am_inB (nI i + (3 : Int32)) L = true := cs_j (d := 3) (by omega) hL _ rfl
  refine ⟨M2, W2, ?_, h2⟩
  rw [f345_2107, if_pos j1, if_pos j2, if_pos j3, e1, cb_bi, if_pos j1, if_pos j2, if_pos j3, e2, cb_bi, if_pos rfl, cs_6, nI_add]
theorem L_2150 {z L : Nat} {xs : Nat → Int32} {k18 : Int32 → aM → Option aR} {n i : Nat} {M : aM} {W : cW} (hz : 2000 ≤ z) (hi : i + 6 ≤ L) (hL : L ≤ 3072) (h : RW M W) : ∃ M2 W2, f345_2150 z L xs k18 (n + 1) (nI i) M = k18 (nI (i + 6)) M2 ∧ RW M2 W2 := by
  obtain ⟨v, M1, M2, e1, e2, W2, h2⟩ := P_rate (z := z) hz h (xs (nI i + (1 : Int32)).toNatClampNeg) (xs (nI i + (2 : Int32)).toNatClampNeg)
  have j1 : am_inB (nI i + (1 : Int32)) L = true := cs_j (d := 1) (by omega) hL _ rfl
  have j2 : am_inB (nI i + (2 : Int32)) L = true := cs_j (d := 2) (by omega) hL _ rfl
  refine ⟨M2, W2, ?_, h2⟩
  rw [f345_2150, if_pos j1, if_pos j2, e1, cb_bi, if_pos j1, if_pos j2, e2, cb_bi, if_pos rfl, cs_6, nI_add]
theorem L_2183 {z L : Nat} {xs : Nat → Int32} {k18 : Int32 → aM → Option aR} {n i : Nat} {M : aM} {W : cW} (hz : 2000 ≤ z) (hi : i + 6 ≤ L) (hL : L ≤ 3072) (h : RW M W) : ∃ M2 W2, f345_2183 z L xs k18 (n + 1) (nI i) M = k18 (nI (i + 6)) M2 ∧ RW M2 W2 := by
  obtain ⟨v, M1, M2, e1, e2, W2, h2⟩ := P_count (z := z) hz h (xs (nI i + (1 : Int32)).toNatClampNeg)
  have j1 : am_inB (nI i + (1 : Int32)) L = true := cs_j (d := 1) (by omega) hL _ rfl
  refine ⟨M2, W2, ?_, h2⟩
  rw [f345_2183, if_pos j1, e1, cb_bi, if_pos j1, e2, cb_bi, if_pos rfl, cs_6, nI_add]
theorem L_2206 {z L : Nat} {xs : Nat → Int32} {k18 : Int32 → aM → Option aR} {n i : Nat} {M : aM} {W : cW} (hz : 2000 ≤ z) (hi : i + 6 ≤ L) (hL : L ≤ 3072) (h : RW M W) : ∃ M2 W2, f345_2206 z L xs k18 (n + 1) (nI i) M = k18 (nI (i + 6)) M2 ∧ RW M2 W2 := by
  obtain ⟨v, M1, M2, e1, e2, W2, h2⟩ := P_image (z := z) hz h (xs (nI i + (1 : Int32)).toNatClampNeg)
  have j1 : am_inB (nI i + (1 : Int32)) L = true := cs_j (d := 1) (by omega) hL _ rfl
  refine ⟨M2, W2, ?_, h2⟩
  rw [f345_2206, if_pos j1, e1, cb_bi, if_pos j1, e2, cb_bi, if_pos rfl, cs_6, nI_add]
theorem L_2229 {z L : Nat} {xs : Nat → Int32} {k18 : Int32 → aM → Option aR} {n i : Nat} {M : aM} {W : cW} (hz : 2000 ≤ z) (hi : i + 6 ≤ L) (hL : L ≤ 3072) (h : RW M W) : ∃ M2 W2, f345_2229 z L xs k18 (n + 1) (nI i) M = k18 (nI (i + 6)) M2 ∧ RW M2 W2 := by
  obtain ⟨v, M1, M2, e1, e2, W2, h2⟩ := P_back (z := z) hz h (xs (nI i + (1 : Int32)).toNatClampNeg)
  have j1 : am_inB (nI i + (1 : Int32)) L = true := cs_j (d := 1) (by omega) hL _ rfl
  refine ⟨M2, W2, ?_, h2⟩
  rw [f345_2229, if_pos j1, e1, cb_bi, if_pos j1, e2, cb_bi, if_pos rfl, cs_6, nI_add]
theorem L_2252 {z L : Nat} {xs : Nat → Int32} {k18 : Int32 → aM → Option aR} {n i : Nat} {M : aM} {W : cW} (hz : 2000 ≤ z) (hi : i + 6 ≤ L) (hL : L ≤ 3072) (h : RW M W) : ∃ M2 W2, f345_2252 z L xs k18 (n + 1) (nI i) M = k18 (nI (i + 6)) M2 ∧ RW M2 W2 := by
  obtain ⟨v, M1, M2, e1, e2, W2, h2⟩ := P_row (z := z) hz h (xs (nI i + (1 : Int32)).toNatClampNeg) (xs (nI i + (2 : Int32)).toNatClampNeg) (xs (nI i + (3 : Int32)).toNatClampNeg)
  have j1 : am_inB (nI i + (1 : Int32)) L = true := cs_j (d := 1) (by omega) hL _ rfl
  have j2 : am_inB (nI i + (2 : Int32)) L = true := cs_j (d := 2) (by omega) hL _ rfl
  have j3 : am_inB (nI i + (3 : Int32)) L = true := cs_j (d := 3) (by omega) hL _ rfl
  refine ⟨M2, W2, ?_, h2⟩
  rw [f345_2252, if_pos j1, if_pos j2, if_pos j3, e1, cb_bi, if_pos j1, if_pos j2, if_pos j3, e2, cb_bi, if_pos rfl, cs_6, nI_add]
theorem L_2295 {z L : Nat} {xs : Nat → Int32} {k18 : Int32 → aM → Option aR} {n i : Nat} {M : aM} {W : cW} (hz : 2000 ≤ z) (hi : i + 6 ≤ L) (hL : L ≤ 3072) (h : RW M W) : ∃ M2 W2, f345_2295 z L xs k18 (n + 1) (nI i) M = k18 (nI (i + 6)) M2 ∧ RW M2 W2 := by
  obtain ⟨v, M1, M2, e1, e2, W2, h2⟩ := P_write (z := z) h (xs (nI i + (1 : Int32)).toNatClampNeg) (xs (nI i + (2 : Int32)).toNatClampNeg) (((Int32.toInt64 (xs (nI i + (3 : Int32)).toNatClampNeg)) <<< ((32 : Int32).toInt64 &&& 63)) ||| ((Int32.toInt64 (xs (nI i + (4 : Int32)).toNatClampNeg)) &&& (4294967295 : Int64)))
  have j1 : am_inB (nI i + (1 : Int32)) L = true := cs_j (d := 1) (by omega) hL _ rfl
  have j2 : am_inB (nI i + (2 : Int32)) L = true := cs_j (d := 2) (by omega) hL _ rfl
  have j3 : am_inB (nI i + (3 : Int32)) L = true := cs_j (d := 3) (by omega) hL _ rfl
  have j4 : am_inB (nI i + (4 : Int32)) L = true := cs_j (d := 4) (by omega) hL _ rfl
  refine ⟨M2, W2, ?_, h2⟩
  rw [f345_2295, if_pos j1, if_pos j2, if_pos j3, if_pos j4, e1, cb_bi, if_pos j1, if_pos j2, if_pos j3, if_pos j4, e2, cb_bi, if_pos rfl, cs_6, nI_add]
theorem L_2368 {z L : Nat} {xs : Nat → Int32} {k18 : Int32 → aM → Option aR} {n i : Nat} {M : aM} {W : cW} (hz : 2000 ≤ z) (hi : i + 6 ≤ L) (hL : L ≤ 3072) (h : RW M W) : ∃ M2 W2, f345_2368 z L xs k18 (n + 1) (nI i) M = k18 (nI (i + 6)) M2 ∧ RW M2 W2 := by
  obtain ⟨v, M1, M2, e1, e2, W2, h2⟩ := P_paste (z := z) hz h (xs (nI i + (1 : Int32)).toNatClampNeg) (xs (nI i + (2 : Int32)).toNatClampNeg) (xs (nI i + (3 : Int32)).toNatClampNeg) (xs (nI i + (4 : Int32)).toNatClampNeg) (xs (nI i + (5 : Int32)).toNatClampNeg)
  have j1 : am_inB (nI i + (1 : Int32)) L = true := cs_j (d := 1) (by omega) hL _ rfl
  have j2 : am_inB (nI i + (2 : Int32)) L = true := cs_j (d := 2) (by omega) hL _ rfl
  have j3 : am_inB (nI i + (3 : Int32)) L = true := cs_j (d := 3) (by omega) hL _ rfl
  have j4 : am_inB (nI i + (4 : Int32)) L = true := cs_j (d := 4) (by omega) hL _ rfl
  have j5 : am_inB (nI i + (5 : Int32)) L = true := cs_j (d := 5) (by omega) hL _ rfl
  refine ⟨M2, W2, ?_, h2⟩
  rw [f345_2368, if_pos j1, if_pos j2, if_pos j3, if_pos j4, if_pos j5, e1, cb_bi, if_pos j1, if_pos j2, if_pos j3, if_pos j4, if_pos j5, e2, cb_bi, if_pos rfl, cs_6, nI_add]
/-- the law: its loop comes to its end, and answers true -/
theorem L_all {z L : Nat} {xs : Nat → Int32} (hz : 2000 ≤ z) (hL : L ≤ 3072) (hcl : ∀ {M : aM} {W : cW}, RW M W → PR (f82 z M) (f206 z)) : ∀ (n i : Nat) (M : aM) (W : cW), RW M W → L < 6 * n + i → i ≤ L → ∃ M2, f345_18 z L xs n (nI i) M = some (some (.inl ((1 : Int32) &&& 1)), M2)
  | 0, i, M, W, h, hn, hi => by
    omega
  | n + 1, i, M, W, h, hn, hi => by
    rw [f345_18]
    by_cases q : i + 6 ≤ L
    · have c0 : ¬ (nI L - (6 : Int32)) < nI i := by
        rw [cs_6, q_sub (show 6 ≤ L by omega), q_lt (by omega) (by omega)]
        omega
      have j0 : am_inB (nI i) L = true := q_inB (by omega) (by omega)
      have ih := fun M W (h : RW M W) => L_all (xs := xs) hz hL hcl n (i + 6) M W h (by omega) (by omega)
      have st : ∀ o : Option aR, (∃ M2 W2, o = f345_18 z L xs n (nI (i + 6)) M2 ∧ RW M2 W2) → ∃ M2, o = some (some (.inl ((1 : Int32) &&& 1)), M2) := fun o ⟨M2, W2, e, h2⟩ => by
        obtain ⟨M3, e3⟩ := ih M2 W2 h2
        exact ⟨M3, e.trans e3⟩
      obtain ⟨z1, rfl⟩ : ∃ z1, z = z1 + 1 := ⟨z - 1, by omega⟩
      rw [if_neg c0, if_pos j0]
      generalize (xs (nI i).toNatClampNeg &&& (127 : Int32)) = w
      by_cases c : w = (0 : Int32)
      · rw [if_pos c]; exact st _ (L_340 hz q hL h)
      rw [if_neg c]; clear c
      by_cases c : w = (1 : Int32)
      · rw [if_pos c]; exact st _ (L_403 hz q hL h)
      rw [if_neg c]; clear c
      by_cases c : w = (2 : Int32)
      · rw [if_pos c]; exact st _ (L_426 hz q hL hcl h)
      rw [if_neg c]; clear c
      by_cases c : w = (3 : Int32)
      · rw [if_pos c]; exact st _ (L_439 hz q hL h)
      rw [if_neg c]; clear c
      by_cases c : w = (4 : Int32)
      · rw [if_pos c]; exact st _ (L_462 hz q hL h)
      rw [if_neg c]; clear c
      by_cases c : w = (5 : Int32)
      · rw [if_pos c]; exact st _ (L_495 hz q hL h)
      rw [if_neg c]; clear c
      by_cases c : w = (6 : Int32)
      · rw [if_pos c]; exact st _ (L_528 hz q hL h)
      rw [if_neg c]; clear c
      by_cases c : w = (7 : Int32)
      · rw [if_pos c]; exact st _ (L_551 hz q hL h)
      rw [if_neg c]; clear c
      by_cases c : w = (8 : Int32)
      · rw [if_pos c]; exact st _ (L_584 hz q hL h)
      rw [if_neg c]; clear c
      by_cases c : w = (9 : Int32)
      · rw [if_pos c]; exact st _ (L_607 hz q hL h)
      rw [if_neg c]; clear c
      by_cases c : w = (10 : Int32)
      · rw [if_pos c]; exact st _ (L_630 hz q hL h)
      rw [if_neg c]; clear c
      by_cases c : w = (11 : Int32)
      · rw [if_pos c]; exact st _ (L_653 hz q hL h)
      rw [if_neg c]; clear c
      by_cases c : w = (12 : Int32)
      · rw [if_pos c]; exact st _ (L_676 hz q hL h)
      rw [if_neg c]; clear c
      by_cases c : w = (13 : Int32)
      · rw [if_pos c]; exact st _ (L_699 hz q hL h)
      rw [if_neg c]; clear c
      by_cases c : w = (14 : Int32)
      · rw [if_pos c]; exact st _ (L_722 hz q hL h)
      rw [if_neg c]; clear c
      by_cases c : w = (15 : Int32)
      · rw [if_pos c]; exact st _ (L_745 hz q hL h)
      rw [if_neg c]; clear c
      by_cases c : w = (16 : Int32)
      · rw [if_pos c]; exact st _ (L_768 hz q hL h)
      rw [if_neg c]; clear c
      by_cases c : w = (17 : Int32)
      · rw [if_pos c]; exact st _ (L_791 hz q hL h)
      rw [if_neg c]; clear c
      by_cases c : w = (18 : Int32)
      · rw [if_pos c]; exact st _ (L_814 hz q hL h)
      rw [if_neg c]; clear c
      by_cases c : w = (19 : Int32)
      · rw [if_pos c]; exact st _ (L_837 hz q hL h)
      rw [if_neg c]; clear c
      by_cases c : w = (20 : Int32)
      · rw [if_pos c]; exact st _ (L_850 hz q hL h)
      rw [if_neg c]; clear c
      by_cases c : w = (21 : Int32)
      · rw [if_pos c]; exact st _ (L_883 hz q hL h)
      rw [if_neg c]; clear c
      by_cases c : w = (22 : Int32)
      · rw [if_pos c]; exact st _ (L_916 hz q hL h)
      rw [if_neg c]; clear c
      by_cases c : w = (23 : Int32)
      · rw [if_pos c]; exact st _ (L_949 hz q hL h)
      rw [if_neg c]; clear c
      by_cases c : w = (24 : Int32)
      · rw [if_pos c]; exact st _ (L_972 hz q hL h)
      rw [if_neg c]; clear c
      by_cases c : w = (25 : Int32)
      · rw [if_pos c]; exact st _ (L_995 hz q hL h)
      rw [if_neg c]; clear c
      by_cases c : w = (26 : Int32)
      · rw [if_pos c]; exact st _ (L_1018 hz q hL h)
      rw [if_neg c]; clear c
      by_cases c : w = (27 : Int32)
      · rw [if_pos c]; exact st _ (L_1041 hz q hL h)
      rw [if_neg c]; clear c
      by_cases c : w = (28 : Int32)
      · rw [if_pos c]; exact st _ (L_1054 hz q hL h)
      rw [if_neg c]; clear c
      by_cases c : w = (29 : Int32)
      · rw [if_pos c]; exact st _ (L_1067 hz q hL h)
      rw [if_neg c]; clear c
      by_cases c : w = (30 : Int32)
      · rw [if_pos c]; exact st _ (L_1090 hz q hL h)
      rw [if_neg c]; clear c
      by_cases c : w = (31 : Int32)
      · rw [if_pos c]; exact st _ (L_1113 hz q hL h)
      rw [if_neg c]; clear c
      by_cases c : w = (32 : Int32)
      · rw [if_pos c]; exact st _ (L_1126 hz q hL h)
      rw [if_neg c]; clear c
      by_cases c : w = (33 : Int32)
      · rw [if_pos c]; exact st _ (L_1169 hz q hL h)
      rw [if_neg c]; clear c
      by_cases c : w = (34 : Int32)
      · rw [if_pos c]; exact st _ (L_1222 hz q hL h)
      rw [if_neg c]; clear c
      by_cases c : w = (35 : Int32)
      · rw [if_pos c]; exact st _ (L_1265 hz q hL h)
      rw [if_neg c]; clear c
      by_cases c : w = (36 : Int32)
      · rw [if_pos c]; exact st _ (L_1298 hz q hL h)
      rw [if_neg c]; clear c
      by_cases c : w = (37 : Int32)
      · rw [if_pos c]; exact st _ (L_1321 hz q hL h)
      rw [if_neg c]; clear c
      by_cases c : w = (38 : Int32)
      · rw [if_pos c]; exact st _ (L_1354 hz q hL h)
      rw [if_neg c]; clear c
      by_cases c : w = (39 : Int32)
      · rw [if_pos c]; exact st _ (L_1387 hz q hL h)
      rw [if_neg c]; clear c
      by_cases c : w = (40 : Int32)
      · rw [if_pos c]; exact st _ (L_1410 hz q hL h)
      rw [if_neg c]; clear c
      by_cases c : w = (41 : Int32)
      · rw [if_pos c]; exact st _ (L_1433 hz q hL h)
      rw [if_neg c]; clear c
      by_cases c : w = (42 : Int32)
      · rw [if_pos c]; exact st _ (L_1466 hz q hL h)
      rw [if_neg c]; clear c
      by_cases c : w = (43 : Int32)
      · rw [if_pos c]; exact st _ (L_1499 hz q hL h)
      rw [if_neg c]; clear c
      by_cases c : w = (44 : Int32)
      · rw [if_pos c]; exact st _ (L_1512 hz q hL h)
      rw [if_neg c]; clear c
      by_cases c : w = (45 : Int32)
      · rw [if_pos c]; exact st _ (L_1525 hz q hL h)
      rw [if_neg c]; clear c
      by_cases c : w = (46 : Int32)
      · rw [if_pos c]; exact st _ (L_1538 hz q hL h)
      rw [if_neg c]; clear c
      by_cases c : w = (47 : Int32)
      · rw [if_pos c]; exact st _ (L_1571 hz q hL h)
      rw [if_neg c]; clear c
      by_cases c : w = (48 : Int32)
      · rw [if_pos c]; exact st _ (L_1604 hz q hL h)
      rw [if_neg c]; clear c
      by_cases c : w = (49 : Int32)
      · rw [if_pos c]; exact st _ (L_1637 hz q hL h)
      rw [if_neg c]; clear c
      by_cases c : w = (50 : Int32)
      · rw [if_pos c]; exact st _ (L_1670 hz q hL h)
      rw [if_neg c]; clear c
      by_cases c : w = (51 : Int32)
      · rw [if_pos c]; exact st _ (L_1703 hz q hL h)
      rw [if_neg c]; clear c
      by_cases c : w = (52 : Int32)
      · rw [if_pos c]; exact st _ (L_1726 hz q hL h)
      rw [if_neg c]; clear c
      by_cases c : w = (53 : Int32)
      · rw [if_pos c]; exact st _ (L_1749 hz q hL h)
      rw [if_neg c]; clear c
      by_cases c : w = (54 : Int32)
      · rw [if_pos c]; exact st _ (L_1762 hz q hL h)
      rw [if_neg c]; clear c
      by_cases c : w = (55 : Int32)
      · rw [if_pos c]; exact st _ (L_1785 hz q hL h)
      rw [if_neg c]; clear c
      by_cases c : w = (56 : Int32)
      · rw [if_pos c]; exact st _ (L_1818 hz q hL h)
      rw [if_neg c]; clear c
      by_cases c : w = (57 : Int32)
      · rw [if_pos c]; exact st _ (L_1851 hz q hL h)
      rw [if_neg c]; clear c
      by_cases c : w = (58 : Int32)
      · rw [if_pos c]; exact st _ (L_1904 hz q hL h)
      rw [if_neg c]; clear c
      by_cases c : w = (59 : Int32)
      · rw [if_pos c]; exact st _ (L_1938 hz q hL h)
      rw [if_neg c]; clear c
      by_cases c : w = (60 : Int32)
      · rw [if_pos c]; exact st _ (L_1962 hz q hL h)
      rw [if_neg c]; clear c
      by_cases c : w = (61 : Int32)
      · rw [if_pos c]; exact st _ (L_2005 hz q hL h)
      rw [if_neg c]; clear c
      by_cases c : w = (62 : Int32)
      · rw [if_pos c]; exact st _ (L_2048 hz q hL h)
      rw [if_neg c]; clear c
      by_cases c : w = (63 : Int32)
      · rw [if_pos c]; exact st _ (L_2061 hz q hL h)
      rw [if_neg c]; clear c
      by_cases c : w = (64 : Int32)
      · rw [if_pos c]; exact st _ (L_2074 hz q hL h)
      rw [if_neg c]; clear c
      by_cases c : w = (65 : Int32)
      · rw [if_pos c]; exact st _ (L_2107 hz q hL h)
      rw [if_neg c]; clear c
      by_cases c : w = (66 : Int32)
      · rw [if_pos c]; exact st _ (L_2150 hz q hL h)
      rw [if_neg c]; clear c
      by_cases c : w = (67 : Int32)
      · rw [if_pos c]; exact st _ (L_2183 hz q hL h)
      rw [if_neg c]; clear c
      by_cases c : w = (68 : Int32)
      · rw [if_pos c]; exact st _ (L_2206 hz q hL h)
      rw [if_neg c]; clear c
      by_cases c : w = (69 : Int32)
      · rw [if_pos c]; exact st _ (L_2229 hz q hL h)
      rw [if_neg c]; clear c
      by_cases c : w = (70 : Int32)
      · rw [if_pos c]; exact st _ (L_2252 hz q hL h)
      rw [if_neg c]; clear c
      by_cases c : w = (71 : Int32)
      · rw [if_pos c]; exact st _ (L_2295 hz q hL h)
      rw [if_neg c]; clear c
      by_cases c : w = (72 : Int32)
      · rw [if_pos c]; exact st _ (L_2368 hz q hL h)
      rw [if_neg c]; clear c
      rw [cs_6, nI_add]
      exact ih M W h
    · refine ⟨M, if_pos ?_⟩
      rw [cs_6, Int32.lt_iff_toInt_lt, q_subI (by omega) (by omega)]
      have e : (nI i).toInt = (i : Int) := by
        have := q_subI (show i < 2147483648 by omega) (show 0 < 2147483648 by omega)
        rw [q_sub (Nat.zero_le i)] at this
        simpa using this
      rw [e]
      omega
