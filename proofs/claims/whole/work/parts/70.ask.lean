/-! ===== questions about years, further ===== -/
theorem and_pow (H c : Nat) : (H &&& 2 ^ c = 2 ^ c) = (bt H c = 1) := by
  rw [bt_tb]
  apply propext
  constructor
  · intro h
    have e : (H &&& 2 ^ c).testBit c = (2 ^ c).testBit c := by rw [h]
    rw [Nat.testBit_and, Nat.testBit_two_pow_self] at e
    simpa using e
  · intro h
    apply Nat.eq_of_testBit_eq
    intro j
    rw [Nat.testBit_and]
    by_cases e : j = c
    · rw [e, h]; simp
    · rw [Nat.testBit_two_pow_of_ne (Ne.symm e)]; simp
theorem q_andH (H c : Nat) : nI H &&& nI (2 ^ c) = nI (H &&& 2 ^ c) := q_andN _ _
def faB (W : cW) (c : Nat) : Nat → Bool := fun y => decide (bt (hg W (sw (tY W y)) (W 0 3)) c = 0)
theorem P_falls {z : Nat} (hz : 2000 ≤ z) {M : aM} {W : cW} (h : RW M W) (x1 : Int32) : PR (f94 z x1 M) (f241 z x1) := by
  by_cases o0 : okN (W 0 3) x1
  · obtain ⟨c, hc, rfl⟩ := o0
    have hN3 := h.n3
    have hN4 := h.n4
    have hN5 := h.n5
    have hN0 := h.n0
    refine PR.q h (v := oI (fst (faB W c) (W 0 0 + 1))) (M1 := M) ?_ kR.id0 (fun M1 h1 => ?_)
    · simp only [f94, k8t h.c h.w hc, cb_bi, i0f, i1f, i0n, i1n]
      simp only [n_1, n_31, q_shl (show c < 31 by omega), f95]
      refine Eq.trans (b := some (some (.inl (oI (fst (faB W c) (W 0 0 + 1)))), M)) ?_ rfl
      refine Eq.trans (congrArg (fun o => am_bi o fun v4 M3 => some (some (.inl v4), M3)) (a₂ := some (some (.inl (oI (fst (faB W c) (W 0 0 + 1)))), M)) ?_) rfl
      simp only [n_0]
      refine Eq.trans (le0 (fun n k => f95_2 z n (nI (2 ^ c)) (nI k) M) (W 0 0 + 1) z (faB W c) (fun k => some (some (.inl (nI k)), M)) (some (some (.inl mI), M)) (by omega) (by
        intro n k hk
        have e9 := c_hang (z := z) (r := 33 + (1 + k)) (s := tY W k) hz 67 h.w h.c (fun t ht => h.row (Nat.le_of_lt_succ hk) ht) (fun t _ => h.rb (Nat.le_of_lt_succ hk) t)
        have e8 := and_pow (hg W (sw (tY W k)) (W 0 3)) c
        have e7 := bt_lt (hg W (sw (tY W k)) (W 0 3)) c
        have e6 : hg W (sw (tY W k)) (W 0 3) &&& 2 ^ c < 2147483648 := Nat.lt_of_le_of_lt Nat.and_le_left (Nat.lt_of_lt_of_le (hg_lt W _ _) (Nat.pow_le_pow_right (n := 2) (by omega) (show W 0 3 ≤ 31 by omega)))
        have e5 : 2 ^ c < 2147483648 := Nat.lt_of_lt_of_le (Nat.pow_lt_pow_right (a := 2) (by omega) (show c < 8 by omega)) (by omega)
        rw [f95_2]
        by_cases hc0 : bt (hg W (sw (tY W k)) (W 0 3)) c = 0
        · have e1 : (faB W c) k = true := by simp [faB, hc0]
          simp (disch := omega) only [n_0, n_1, n_2, n_3, n_4, n_5, n_6, n_7, n_8, n_9, n_10, n_12, n_13, n_16, n_30, n_60, n_61, n_86, n_99, n_100, n_200, n_201, n_1023, n_65535, n_10000, n_1000000, ↓q_m1, ↓q_m2, ↓q_m3, ↓q_m4, ↓q_m5, ↓q_m6, ↓q_m7, ↓q_m8, ↓q_m1000, ↓q_m100000, q_add, q_addm, q_inB, q_cl, q_le, q_lt, q_eq, q_eqm, q_meq, q_mltT, q_ltm, q_lem, q_mleT, if_true, if_false, if_pos, if_neg, Nat.reduceAdd, Nat.reduceMul, Nat.add_zero, Nat.zero_add, Nat.one_mul, not_true_eq_false, not_false_eq_true, u_row, u_self, u_ne, cb_bi, cb_bv, cb_bl, e1, h.c.i1, e9, q_andH, e8]
        · have e1 : (faB W c) k = false := by simp [faB, hc0]
          simp (disch := omega) only [n_0, n_1, n_2, n_3, n_4, n_5, n_6, n_7, n_8, n_9, n_10, n_12, n_13, n_16, n_30, n_60, n_61, n_86, n_99, n_100, n_200, n_201, n_1023, n_65535, n_10000, n_1000000, ↓q_m1, ↓q_m2, ↓q_m3, ↓q_m4, ↓q_m5, ↓q_m6, ↓q_m7, ↓q_m8, ↓q_m1000, ↓q_m100000, q_add, q_addm, q_inB, q_cl, q_le, q_lt, q_eq, q_eqm, q_meq, q_mltT, q_ltm, q_lem, q_mleT, if_true, if_false, if_pos, if_neg, Nat.reduceAdd, Nat.reduceMul, Nat.add_zero, Nat.zero_add, Nat.one_mul, not_true_eq_false, not_false_eq_true, u_row, u_self, u_ne, cb_bi, cb_bv, cb_bl, e1, Bool.false_eq_true, h.c.i1, e9, q_andH, e8]) (by
        intro n
        rw [f95_2]
        simp (disch := omega) only [n_0, n_1, n_2, n_3, n_4, n_5, n_6, n_7, n_8, n_9, n_10, n_12, n_13, n_16, n_30, n_60, n_61, n_86, n_99, n_100, n_200, n_201, n_1023, n_65535, n_10000, n_1000000, ↓q_m1, ↓q_m2, ↓q_m3, ↓q_m4, ↓q_m5, ↓q_m6, ↓q_m7, ↓q_m8, ↓q_m1000, ↓q_m100000, q_add, q_addm, q_inB, q_cl, q_le, q_lt, q_eq, q_eqm, q_meq, q_mltT, q_ltm, q_lem, q_mleT, if_true, if_false, if_pos, if_neg, Nat.reduceAdd, Nat.reduceMul, Nat.add_zero, Nat.zero_add, Nat.one_mul, not_true_eq_false, not_false_eq_true, u_row, u_self, u_ne, cb_bi, cb_bv, cb_bl, h.c.i1])) ?_
      cases fst (faB W c) (W 0 0 + 1) <;> rfl
    · obtain ⟨M2, e, k, r, R⟩ := m_C hz h1
      refine ⟨M2, ?_, k⟩
      simp only [f241, e, k182t r h1.w hc, cb_bi, i0f, i1f, i0n, i1n]
      simp only [n_0]
      refine Eq.trans (le0 (fun n k => f241_18 z n (nI c) (nI k) M2) (W 0 0 + 1) z (faB W c) (fun k => some (some (.inl (nI k)), M2)) (some (some (.inl mI), M2)) (by omega) (by
        intro n k hk
        have e9 := g231 (z := z) hz r h1.w R (by omega) hk (h1.rb (Nat.le_of_lt_succ hk))
        have e6 : hg W (sw (tY W k)) (W 0 3) < 2147483648 := Nat.lt_of_lt_of_le (hg_lt W _ _) (Nat.pow_le_pow_right (n := 2) (by omega) (show W 0 3 ≤ 31 by omega))
        have e8 := g172 z M2 e6 (show c < 32 by omega)
        have e7 := bt_lt (hg W (sw (tY W k)) (W 0 3)) c
        rw [f241_18]
        by_cases hc0 : bt (hg W (sw (tY W k)) (W 0 3)) c = 0
        · have e1 : (faB W c) k = true := by simp [faB, hc0]
          simp (disch := omega) only [n_0, n_1, n_2, n_3, n_4, n_5, n_6, n_7, n_8, n_9, n_10, n_12, n_13, n_16, n_30, n_60, n_61, n_86, n_99, n_100, n_200, n_201, n_1023, n_65535, n_10000, n_1000000, ↓q_m1, ↓q_m2, ↓q_m3, ↓q_m4, ↓q_m5, ↓q_m6, ↓q_m7, ↓q_m8, ↓q_m1000, ↓q_m100000, q_add, q_addm, q_inB, q_cl, q_le, q_lt, q_eq, q_eqm, q_meq, q_mltT, q_ltm, q_lem, q_mleT, if_true, if_false, if_pos, if_neg, Nat.reduceAdd, Nat.reduceMul, Nat.add_zero, Nat.zero_add, Nat.one_mul, not_true_eq_false, not_false_eq_true, u_row, u_self, u_ne, cb_bi, cb_bv, cb_bl, e1, g176 r, cb_bi, e9, e8]
        · have e1 : (faB W c) k = false := by simp [faB, hc0]
          simp (disch := omega) only [n_0, n_1, n_2, n_3, n_4, n_5, n_6, n_7, n_8, n_9, n_10, n_12, n_13, n_16, n_30, n_60, n_61, n_86, n_99, n_100, n_200, n_201, n_1023, n_65535, n_10000, n_1000000, ↓q_m1, ↓q_m2, ↓q_m3, ↓q_m4, ↓q_m5, ↓q_m6, ↓q_m7, ↓q_m8, ↓q_m1000, ↓q_m100000, q_add, q_addm, q_inB, q_cl, q_le, q_lt, q_eq, q_eqm, q_meq, q_mltT, q_ltm, q_lem, q_mleT, if_true, if_false, if_pos, if_neg, Nat.reduceAdd, Nat.reduceMul, Nat.add_zero, Nat.zero_add, Nat.one_mul, not_true_eq_false, not_false_eq_true, u_row, u_self, u_ne, cb_bi, cb_bv, cb_bl, e1, Bool.false_eq_true, g176 r, cb_bi, e9, e8]) (by
        intro n
        rw [f241_18]
        simp (disch := omega) only [n_0, n_1, n_2, n_3, n_4, n_5, n_6, n_7, n_8, n_9, n_10, n_12, n_13, n_16, n_30, n_60, n_61, n_86, n_99, n_100, n_200, n_201, n_1023, n_65535, n_10000, n_1000000, ↓q_m1, ↓q_m2, ↓q_m3, ↓q_m4, ↓q_m5, ↓q_m6, ↓q_m7, ↓q_m8, ↓q_m1000, ↓q_m100000, q_add, q_addm, q_inB, q_cl, q_le, q_lt, q_eq, q_eqm, q_meq, q_mltT, q_ltm, q_lem, q_mleT, if_true, if_false, if_pos, if_neg, Nat.reduceAdd, Nat.reduceMul, Nat.add_zero, Nat.zero_add, Nat.one_mul, not_true_eq_false, not_false_eq_true, u_row, u_self, u_ne, cb_bi, cb_bv, cb_bl, g176 r, cb_bi])) ?_
      cases fst (faB W c) (W 0 0 + 1) <;> rfl
  · refine PR.s h (v := -2) (by simp only [f94, k8f h.c h.w o0, cb_bi, i0f, i1f, i0n, i1n]) (fun M1 h1 => ?_)
    obtain ⟨M2, e, k, r, R⟩ := m_C hz h1
    exact ⟨M2, by simp only [f241, e, k182f r h1.w o0, cb_bi, i0f, i1f, i0n, i1n], k⟩
theorem k13 {z : Nat} {M : aM} {W : cW} (hC : rC M 18 W) (hW : wf W) : f13 z 18 M = some (some (.inl (nI (2 ^ W 0 3 - 1))), M) := by
  have hC8 : W 0 3 ≤ 8 := hW.2.2.2.1
  have := Nat.two_pow_pos (W 0 3)
  unfold f13
  simp (disch := omega) only [hC.i4, n_31, n_1, q_shl, q_sub]
theorem g233 {z : Nat} {M : aM} {W : cW} (h : rM (M.1 206) W) (hW : wf W) : f233 z M = some (some (.inl (nI (2 ^ W 0 3 - 1))), M) := by
  have hC8 : W 0 3 ≤ 8 := hW.2.2.2.1
  have := Nat.two_pow_pos (W 0 3)
  unfold f233
  rw [g177 h, cb_bi]
  simp (disch := omega) only [n_31, n_1, q_shl, q_sub]
theorem hg_and (W : cW) (w : Nat → Bool) (n : Nat) : hg W w n &&& (2 ^ n - 1) = hg W w n := by
  rw [Nat.and_two_pow_sub_one_eq_mod, Nat.mod_eq_of_lt (hg_lt W w n)]
theorem q_andH2 (H A : Nat) : nI H &&& nI (A - 1) = nI (H &&& (A - 1)) := q_andN _ _
def frA (W : cW) : Nat → Bool := fun y => !decide (hg W (sw (tY W y)) (W 0 3) = 2 ^ W 0 3 - 1)
theorem P_frail {z : Nat} (hz : 2000 ≤ z) {M : aM} {W : cW} (h : RW M W) : PR (f102 z M) (f242 z ) := by
  by_cases o0 : 0 < W 0 7
  · have h7 := o0
    have hN3 := h.n3
    have hN4 := h.n4
    have hN5 := h.n5
    have hN0 := h.n0
    refine PR.q h (v := oI (fst (frA W) (W 0 0 + 1))) (M1 := M) ?_ kR.id0 (fun M1 h1 => ?_)
    · simp only [f102, k7t h.c h.w h7, cb_bi, i0f, i1f, i0n, i1n]
      simp only [k13 h.c h.w, f95, cb_bi]
      refine Eq.trans (congrArg (fun o => am_bi o fun v4 M3 => some (some (.inl v4), M3)) (a₂ := some (some (.inl (oI (fst (frA W) (W 0 0 + 1)))), M)) ?_) rfl
      simp only [n_0]
      refine Eq.trans (le0 (fun n k => f95_2 z n (nI (2 ^ W 0 3 - 1)) (nI k) M) (W 0 0 + 1) z (frA W) (fun k => some (some (.inl (nI k)), M)) (some (some (.inl mI), M)) (by omega) (by
        intro n k hk
        have e9 := c_hang (z := z) (r := 33 + (1 + k)) (s := tY W k) hz 67 h.w h.c (fun t ht => h.row (Nat.le_of_lt_succ hk) ht) (fun t _ => h.rb (Nat.le_of_lt_succ hk) t)
        have e6 : hg W (sw (tY W k)) (W 0 3) < 2147483648 := Nat.lt_of_lt_of_le (hg_lt W _ _) (Nat.pow_le_pow_right (n := 2) (by omega) (show W 0 3 ≤ 31 by omega))
        have e5 : 2 ^ W 0 3 - 1 < 2147483648 := by have := Nat.pow_le_pow_right (n := 2) (by omega) (show W 0 3 ≤ 8 by omega); omega
        rw [f95_2]
        by_cases hc0 : ¬ hg W (sw (tY W k)) (W 0 3) = 2 ^ W 0 3 - 1
        · have e1 : (frA W) k = true := by simpa [frA] using hc0
          simp (disch := omega) only [n_0, n_1, n_2, n_3, n_4, n_5, n_6, n_7, n_8, n_9, n_10, n_12, n_13, n_16, n_30, n_60, n_61, n_86, n_99, n_100, n_200, n_201, n_1023, n_65535, n_10000, n_1000000, ↓q_m1, ↓q_m2, ↓q_m3, ↓q_m4, ↓q_m5, ↓q_m6, ↓q_m7, ↓q_m8, ↓q_m1000, ↓q_m100000, q_add, q_addm, q_inB, q_cl, q_le, q_lt, q_eq, q_eqm, q_meq, q_mltT, q_ltm, q_lem, q_mleT, if_true, if_false, if_pos, if_neg, Nat.reduceAdd, Nat.reduceMul, Nat.add_zero, Nat.zero_add, Nat.one_mul, not_true_eq_false, not_false_eq_true, u_row, u_self, u_ne, cb_bi, cb_bv, cb_bl, e1, h.c.i1, e9, q_andH2, hg_and]
        · have e1 : (frA W) k = false := by simpa [frA] using hc0
          simp (disch := omega) only [n_0, n_1, n_2, n_3, n_4, n_5, n_6, n_7, n_8, n_9, n_10, n_12, n_13, n_16, n_30, n_60, n_61, n_86, n_99, n_100, n_200, n_201, n_1023, n_65535, n_10000, n_1000000, ↓q_m1, ↓q_m2, ↓q_m3, ↓q_m4, ↓q_m5, ↓q_m6, ↓q_m7, ↓q_m8, ↓q_m1000, ↓q_m100000, q_add, q_addm, q_inB, q_cl, q_le, q_lt, q_eq, q_eqm, q_meq, q_mltT, q_ltm, q_lem, q_mleT, if_true, if_false, if_pos, if_neg, Nat.reduceAdd, Nat.reduceMul, Nat.add_zero, Nat.zero_add, Nat.one_mul, not_true_eq_false, not_false_eq_true, u_row, u_self, u_ne, cb_bi, cb_bv, cb_bl, e1, Bool.false_eq_true, h.c.i1, e9, q_andH2, hg_and]) (by
        intro n
        rw [f95_2]
        simp (disch := omega) only [n_0, n_1, n_2, n_3, n_4, n_5, n_6, n_7, n_8, n_9, n_10, n_12, n_13, n_16, n_30, n_60, n_61, n_86, n_99, n_100, n_200, n_201, n_1023, n_65535, n_10000, n_1000000, ↓q_m1, ↓q_m2, ↓q_m3, ↓q_m4, ↓q_m5, ↓q_m6, ↓q_m7, ↓q_m8, ↓q_m1000, ↓q_m100000, q_add, q_addm, q_inB, q_cl, q_le, q_lt, q_eq, q_eqm, q_meq, q_mltT, q_ltm, q_lem, q_mleT, if_true, if_false, if_pos, if_neg, Nat.reduceAdd, Nat.reduceMul, Nat.add_zero, Nat.zero_add, Nat.one_mul, not_true_eq_false, not_false_eq_true, u_row, u_self, u_ne, cb_bi, cb_bv, cb_bl, h.c.i1])) ?_
      cases fst (frA W) (W 0 0 + 1) <;> rfl
    · obtain ⟨M2, e, k, r, R⟩ := m_Ct hz h1 h7
      refine ⟨M2, ?_, k⟩
      simp only [f242, e, cb_bi, i0f, i1f, i0n, i1n]
      simp only [n_0]
      refine Eq.trans (le0 (fun n k => f242_12 z n (nI k) M2) (W 0 0 + 1) z (frA W) (fun k => some (some (.inl (nI k)), M2)) (some (some (.inl mI), M2)) (by omega) (by
        intro n k hk
        have e9 := g231 (z := z) hz r h1.w R (by omega) hk (h1.rb (Nat.le_of_lt_succ hk))
        have e8 := g233 (z := z) r h1.w
        have e6 : hg W (sw (tY W k)) (W 0 3) < 2147483648 := Nat.lt_of_lt_of_le (hg_lt W _ _) (Nat.pow_le_pow_right (n := 2) (by omega) (show W 0 3 ≤ 31 by omega))
        have e5 : 2 ^ W 0 3 - 1 < 2147483648 := by have := Nat.pow_le_pow_right (n := 2) (by omega) (show W 0 3 ≤ 8 by omega); omega
        rw [f242_12]
        by_cases hc0 : ¬ hg W (sw (tY W k)) (W 0 3) = 2 ^ W 0 3 - 1
        · have e1 : (frA W) k = true := by simpa [frA] using hc0
          simp (disch := omega) only [n_0, n_1, n_2, n_3, n_4, n_5, n_6, n_7, n_8, n_9, n_10, n_12, n_13, n_16, n_30, n_60, n_61, n_86, n_99, n_100, n_200, n_201, n_1023, n_65535, n_10000, n_1000000, ↓q_m1, ↓q_m2, ↓q_m3, ↓q_m4, ↓q_m5, ↓q_m6, ↓q_m7, ↓q_m8, ↓q_m1000, ↓q_m100000, q_add, q_addm, q_inB, q_cl, q_le, q_lt, q_eq, q_eqm, q_meq, q_mltT, q_ltm, q_lem, q_mleT, if_true, if_false, if_pos, if_neg, Nat.reduceAdd, Nat.reduceMul, Nat.add_zero, Nat.zero_add, Nat.one_mul, not_true_eq_false, not_false_eq_true, u_row, u_self, u_ne, cb_bi, cb_bv, cb_bl, e1, g176 r, cb_bi, e9, e8]
        · have e1 : (frA W) k = false := by simpa [frA] using hc0
          simp (disch := omega) only [n_0, n_1, n_2, n_3, n_4, n_5, n_6, n_7, n_8, n_9, n_10, n_12, n_13, n_16, n_30, n_60, n_61, n_86, n_99, n_100, n_200, n_201, n_1023, n_65535, n_10000, n_1000000, ↓q_m1, ↓q_m2, ↓q_m3, ↓q_m4, ↓q_m5, ↓q_m6, ↓q_m7, ↓q_m8, ↓q_m1000, ↓q_m100000, q_add, q_addm, q_inB, q_cl, q_le, q_lt, q_eq, q_eqm, q_meq, q_mltT, q_ltm, q_lem, q_mleT, if_true, if_false, if_pos, if_neg, Nat.reduceAdd, Nat.reduceMul, Nat.add_zero, Nat.zero_add, Nat.one_mul, not_true_eq_false, not_false_eq_true, u_row, u_self, u_ne, cb_bi, cb_bv, cb_bl, e1, Bool.false_eq_true, g176 r, cb_bi, e9, e8]) (by
        intro n
        rw [f242_12]
        simp (disch := omega) only [n_0, n_1, n_2, n_3, n_4, n_5, n_6, n_7, n_8, n_9, n_10, n_12, n_13, n_16, n_30, n_60, n_61, n_86, n_99, n_100, n_200, n_201, n_1023, n_65535, n_10000, n_1000000, ↓q_m1, ↓q_m2, ↓q_m3, ↓q_m4, ↓q_m5, ↓q_m6, ↓q_m7, ↓q_m8, ↓q_m1000, ↓q_m100000, q_add, q_addm, q_inB, q_cl, q_le, q_lt, q_eq, q_eqm, q_meq, q_mltT, q_ltm, q_lem, q_mleT, if_true, if_false, if_pos, if_neg, Nat.reduceAdd, Nat.reduceMul, Nat.add_zero, Nat.zero_add, Nat.one_mul, not_true_eq_false, not_false_eq_true, u_row, u_self, u_ne, cb_bi, cb_bv, cb_bl, g176 r, cb_bi])) ?_
      cases fst (frA W) (W 0 0 + 1) <;> rfl
  · refine PR.s h (v := -2) (by simp only [f102, k7f h.c o0, cb_bi, i0f, i1f, i0n, i1n]) (fun M1 h1 => ?_)
    obtain ⟨M2, e, k⟩ := m_Cf hz h1 o0
    exact ⟨M2, by simp only [f242, e, cb_bi, i0f, i1f, i0n, i1n], k⟩
theorem k97 {z : Nat} (hz : 2000 ≤ z) {M : aM} {W : cW} (h : RW M W) {y : Nat} (hy : y ≤ W 0 0) : f97 z (nI y) M = some (some (.inl (nI (sm (tY W y) (W 0 4)))), M) := by
  have hN4 := h.n4
  have hN0 := h.n0
  unfold f97
  simp only [n_0]
  obtain ⟨n, e⟩ := lf0 (fun n k => f97_4 z n (nI y) (nI (sm (tY W y) k)) (nI k) M) (W 0 4) z (by omega) (by
    intro n k hk
    have e9 := h.row hy hk
    rw [f97_4]
    simp (disch := omega) only [n_0, n_1, n_2, n_3, n_4, n_5, n_6, n_7, n_8, n_9, n_10, n_12, n_13, n_16, n_30, n_60, n_61, n_86, n_99, n_100, n_200, n_201, n_1023, n_65535, n_10000, n_1000000, ↓q_m1, ↓q_m2, ↓q_m3, ↓q_m4, ↓q_m5, ↓q_m6, ↓q_m7, ↓q_m8, ↓q_m1000, ↓q_m100000, q_add, q_addm, q_inB, q_cl, q_le, q_lt, q_eq, q_eqm, q_meq, q_mltT, q_ltm, q_lem, q_mleT, if_true, if_false, if_pos, if_neg, Nat.reduceAdd, Nat.reduceMul, Nat.add_zero, Nat.zero_add, Nat.one_mul, not_true_eq_false, not_false_eq_true, u_row, u_self, u_ne, cb_bi, cb_bv, cb_bl, h.c.i5, e9]
    rfl)
  refine Eq.trans e ?_
  rw [f97_4]
  simp (disch := omega) only [n_0, n_1, n_2, n_3, n_4, n_5, n_6, n_7, n_8, n_9, n_10, n_12, n_13, n_16, n_30, n_60, n_61, n_86, n_99, n_100, n_200, n_201, n_1023, n_65535, n_10000, n_1000000, ↓q_m1, ↓q_m2, ↓q_m3, ↓q_m4, ↓q_m5, ↓q_m6, ↓q_m7, ↓q_m8, ↓q_m1000, ↓q_m100000, q_add, q_addm, q_inB, q_cl, q_le, q_lt, q_eq, q_eqm, q_meq, q_mltT, q_ltm, q_lem, q_mleT, if_true, if_false, if_pos, if_neg, Nat.reduceAdd, Nat.reduceMul, Nat.add_zero, Nat.zero_add, Nat.one_mul, not_true_eq_false, not_false_eq_true, u_row, u_self, u_ne, cb_bi, cb_bv, cb_bl, h.c.i5]
theorem g243 {z : Nat} (hz : 2000 ≤ z) {M : aM} {W : cW} {Y : cY} {m y : Nat} (h : rM (M.1 206) W) (hW : wf W) (hR : zR M W Y m) (hm : m ≤ 13) (hy : y < m) : f243 z (nI y) M = some (some (.inl (nI (sm (Y y) (W 0 4)))), M) := by
  have hT : W 0 4 ≤ 16 := hW.2.2.2.2.1
  unfold f243
  simp only [n_0]
  obtain ⟨n, e⟩ := lf0 (fun n k => f243_4 z n (nI y) (nI (sm (Y y) k)) (nI k) M) (W 0 4) z (by omega) (by
    intro n k hk
    rw [f243_4, g178 h, cb_bi]
    simp (disch := omega) only [n_0, n_1, n_2, n_3, n_4, n_5, n_6, n_7, n_8, n_9, n_10, n_12, n_13, n_16, n_30, n_60, n_61, n_86, n_99, n_100, n_200, n_201, n_1023, n_65535, n_10000, n_1000000, ↓q_m1, ↓q_m2, ↓q_m3, ↓q_m4, ↓q_m5, ↓q_m6, ↓q_m7, ↓q_m8, ↓q_m1000, ↓q_m100000, q_add, q_addm, q_inB, q_cl, q_le, q_lt, q_eq, q_eqm, q_meq, q_mltT, q_ltm, q_lem, q_mleT, if_true, if_false, if_pos, if_neg, Nat.reduceAdd, Nat.reduceMul, Nat.add_zero, Nat.zero_add, Nat.one_mul, not_true_eq_false, not_false_eq_true, u_row, u_self, u_ne, cb_bi, cb_bv, cb_bl, g227 hW hR hm hk hy]
    rfl)
  refine Eq.trans e ?_
  rw [f243_4, g178 h, cb_bi]
  simp (disch := omega) only [n_0, n_1, n_2, n_3, n_4, n_5, n_6, n_7, n_8, n_9, n_10, n_12, n_13, n_16, n_30, n_60, n_61, n_86, n_99, n_100, n_200, n_201, n_1023, n_65535, n_10000, n_1000000, ↓q_m1, ↓q_m2, ↓q_m3, ↓q_m4, ↓q_m5, ↓q_m6, ↓q_m7, ↓q_m8, ↓q_m1000, ↓q_m100000, q_add, q_addm, q_inB, q_cl, q_le, q_lt, q_eq, q_eqm, q_meq, q_mltT, q_ltm, q_lem, q_mleT, if_true, if_false, if_pos, if_neg, Nat.reduceAdd, Nat.reduceMul, Nat.add_zero, Nat.zero_add, Nat.one_mul, not_true_eq_false, not_false_eq_true, u_row, u_self, u_ne, cb_bi, cb_bv, cb_bl]
theorem P_sum {z : Nat} (hz : 2000 ≤ z) {M : aM} {W : cW} (h : RW M W) (x1 : Int32) : PR (f96 z x1 M) (f244 z x1) := by
  by_cases o0 : okY W x1
  · obtain ⟨h7, y, hy, rfl⟩ := o0
    have hy2 : y ≤ W 0 0 := Nat.le_of_lt_succ hy
    have hN3 := h.n3
    have hN4 := h.n4
    have hN5 := h.n5
    have hN0 := h.n0
    refine PR.q h (v := nI (sm (tY W y) (W 0 4))) (M1 := M) ?_ kR.id0 (fun M1 h1 => ?_)
    · simp only [f96, k11t h.c h.w h7 (Nat.le_of_lt_succ hy), cb_bi, i0f, i1f, i0n, i1n]
      simp only [k97 hz h hy2, cb_bi]
    · obtain ⟨M2, e, k, r, R⟩ := m_Yt hz h1 h7 (Nat.le_of_lt_succ hy)
      refine ⟨M2, ?_, k⟩
      simp only [f244, e, cb_bi, i0f, i1f, i0n, i1n]
      simp only [g243 hz r h1.w R (by omega) hy, cb_bi]
  · refine PR.s h (v := -2) (by simp only [f96, k11f h.c h.w o0, cb_bi, i0f, i1f, i0n, i1n]) (fun M1 h1 => ?_)
    obtain ⟨M2, e, k⟩ := m_Yf hz h1 o0
    exact ⟨M2, by simp only [f244, e, cb_bi, i0f, i1f, i0n, i1n], k⟩
theorem P_loses {z : Nat} (hz : 2000 ≤ z) {M : aM} {W : cW} (h : RW M W) (x1 : Int32) : PR (f100 z x1 M) (f245 z x1) := by
  by_cases o0 : okA W x1
  · obtain ⟨h7, y, hy, rfl⟩ := o0
    have hN3 := h.n3
    have hN4 := h.n4
    have hN5 := h.n5
    have hN0 := h.n0
    refine PR.q h (v := nI (sm (tY W y) (W 0 4)) - nI (sm (tY W (y + 1)) (W 0 4))) (M1 := M) ?_ kR.id0 (fun M1 h1 => ?_)
    · simp only [f100, k12t h.c h.w h7 hy, cb_bi, i0f, i1f, i0n, i1n]
      simp only [n_1, q_add, k97 hz h (Nat.le_of_lt hy), k97 hz h (show y + 1 ≤ W 0 0 by omega), cb_bi]
    · obtain ⟨M2, e, k, r, R⟩ := m_C hz h1
      refine ⟨M2, ?_, k⟩
      simp only [f245, e, k181t r h1.w h7 hy, cb_bi, i0f, i1f, i0n, i1n]
      simp only [n_1, q_add, g243 hz r h1.w R (by omega) (show y < W 0 0 + 1 by omega), g243 hz r h1.w R (by omega) (show y + 1 < W 0 0 + 1 by omega), cb_bi]
  · refine PR.s h (v := -100000) (by simp only [f100, k12f h.c h.w o0, cb_bi, i0f, i1f, i0n, i1n]) (fun M1 h1 => ?_)
    obtain ⟨M2, e, k, r, R⟩ := m_C hz h1
    exact ⟨M2, by simp only [f245, e, k181f r h1.w o0, cb_bi, i0f, i1f, i0n, i1n], k⟩
def stg (s : Nat → Nat) : Nat → Option Nat
  | 0 => none
  | n + 1 => match stg s n with
    | none => some n
    | some b => if s b < s n then some n else some b
theorem stg_lt (s : Nat → Nat) : ∀ n b, stg s n = some b → b < n
  | 0, _, h => by cases h
  | n + 1, b, h => by
    unfold stg at h
    cases e : stg s n with
    | none => rw [e] at h; cases h; omega
    | some d =>
      rw [e] at h
      simp only at h
      have := stg_lt s n d e
      split at h <;> (cases h; omega)
def wkg (s : Nat → Nat) : Nat → Option Nat
  | 0 => none
  | n + 1 => if 0 < s n then (match wkg s n with
    | none => some n
    | some b => if s n < s b then some n else some b) else wkg s n
theorem wkg_lt (s : Nat → Nat) : ∀ n b, wkg s n = some b → b < n
  | 0, _, h => by cases h
  | n + 1, b, h => by
    unfold wkg at h
    split at h
    · cases e : wkg s n with
      | none => rw [e] at h; cases h; omega
      | some d =>
        rw [e] at h
        simp only at h
        have := wkg_lt s n d e
        split at h <;> (cases h; omega)
    · have := wkg_lt s n b h
      omega
theorem P_strongest {z : Nat} (hz : 2000 ≤ z) {M : aM} {W : cW} (h : RW M W) (x1 : Int32) : PR (f98 z x1 M) (f248 z x1) := by
  by_cases o0 : okY W x1
  · obtain ⟨h7, y, hy, rfl⟩ := o0
    have hy2 : y ≤ W 0 0 := Nat.le_of_lt_succ hy
    have hN3 := h.n3
    have hN4 := h.n4
    have hN5 := h.n5
    have hN0 := h.n0
    refine PR.q h (v := oI (stg (tY W y) (W 0 4))) (M1 := M) ?_ kR.id0 (fun M1 h1 => ?_)
    · simp only [f98, k11t h.c h.w h7 (Nat.le_of_lt_succ hy), cb_bi, i0f, i1f, i0n, i1n]
      simp (disch := omega) only [q_inB, q_cl, if_true, Nat.one_mul]
      simp only [n_0, ↓q_m1]
      obtain ⟨n, e0⟩ := lf0 (fun n k => f98_29 z n (33 + (1 + y)) (oI (stg (tY W y) k)) (nI k) M) (W 0 4) z (by omega) (by
        intro n k hk
        have e9 := h.row hy2 hk
        have hbk := h.rb hy2 k
        rw [f98_29]
        cases hs : stg (tY W y) k with
        | none =>
          simp (disch := omega) only [n_0, n_1, n_2, n_3, n_4, n_5, n_6, n_7, n_8, n_9, n_10, n_12, n_13, n_16, n_30, n_60, n_61, n_86, n_99, n_100, n_200, n_201, n_1023, n_65535, n_10000, n_1000000, ↓q_m1, ↓q_m2, ↓q_m3, ↓q_m4, ↓q_m5, ↓q_m6, ↓q_m7, ↓q_m8, ↓q_m1000, ↓q_m100000, q_add, q_addm, q_inB, q_cl, q_le, q_lt, q_eq, q_eqm, q_meq, q_mltT, q_ltm, q_lem, q_mleT, if_true, if_false, if_pos, if_neg, Nat.reduceAdd, Nat.reduceMul, Nat.add_zero, Nat.zero_add, Nat.one_mul, not_true_eq_false, not_false_eq_true, u_row, u_self, u_ne, cb_bi, cb_bv, cb_bl, oI_n, oI_s, stg, hs, h.c.i5, e9]
        | some b =>
          have hb := stg_lt _ _ _ hs
          have f9 := h.row hy2 (Nat.lt_trans hb hk)
          have hbb := h.rb hy2 b
          by_cases hc0 : tY W y b < tY W y k
          · simp (disch := omega) only [n_0, n_1, n_2, n_3, n_4, n_5, n_6, n_7, n_8, n_9, n_10, n_12, n_13, n_16, n_30, n_60, n_61, n_86, n_99, n_100, n_200, n_201, n_1023, n_65535, n_10000, n_1000000, ↓q_m1, ↓q_m2, ↓q_m3, ↓q_m4, ↓q_m5, ↓q_m6, ↓q_m7, ↓q_m8, ↓q_m1000, ↓q_m100000, q_add, q_addm, q_inB, q_cl, q_le, q_lt, q_eq, q_eqm, q_meq, q_mltT, q_ltm, q_lem, q_mleT, if_true, if_false, if_pos, if_neg, Nat.reduceAdd, Nat.reduceMul, Nat.add_zero, Nat.zero_add, Nat.one_mul, not_true_eq_false, not_false_eq_true, u_row, u_self, u_ne, cb_bi, cb_bv, cb_bl, oI_n, oI_s, stg, hs, h.c.i5, e9, f9]
          · simp (disch := omega) only [n_0, n_1, n_2, n_3, n_4, n_5, n_6, n_7, n_8, n_9, n_10, n_12, n_13, n_16, n_30, n_60, n_61, n_86, n_99, n_100, n_200, n_201, n_1023, n_65535, n_10000, n_1000000, ↓q_m1, ↓q_m2, ↓q_m3, ↓q_m4, ↓q_m5, ↓q_m6, ↓q_m7, ↓q_m8, ↓q_m1000, ↓q_m100000, q_add, q_addm, q_inB, q_cl, q_le, q_lt, q_eq, q_eqm, q_meq, q_mltT, q_ltm, q_lem, q_mleT, if_true, if_false, if_pos, if_neg, Nat.reduceAdd, Nat.reduceMul, Nat.add_zero, Nat.zero_add, Nat.one_mul, not_true_eq_false, not_false_eq_true, u_row, u_self, u_ne, cb_bi, cb_bv, cb_bl, oI_n, oI_s, stg, hs, h.c.i5, e9, f9])
      refine Eq.trans e0 ?_
      rw [f98_29]
      simp (disch := omega) only [n_0, n_1, n_2, n_3, n_4, n_5, n_6, n_7, n_8, n_9, n_10, n_12, n_13, n_16, n_30, n_60, n_61, n_86, n_99, n_100, n_200, n_201, n_1023, n_65535, n_10000, n_1000000, ↓q_m1, ↓q_m2, ↓q_m3, ↓q_m4, ↓q_m5, ↓q_m6, ↓q_m7, ↓q_m8, ↓q_m1000, ↓q_m100000, q_add, q_addm, q_inB, q_cl, q_le, q_lt, q_eq, q_eqm, q_meq, q_mltT, q_ltm, q_lem, q_mleT, if_true, if_false, if_pos, if_neg, Nat.reduceAdd, Nat.reduceMul, Nat.add_zero, Nat.zero_add, Nat.one_mul, not_true_eq_false, not_false_eq_true, u_row, u_self, u_ne, cb_bi, cb_bv, cb_bl, h.c.i5]
    · obtain ⟨M2, e, k, r, R⟩ := m_Yt hz h1 h7 (Nat.le_of_lt_succ hy)
      refine ⟨M2, ?_, k⟩
      simp only [f248, e, cb_bi, i0f, i1f, i0n, i1n]
      simp only [n_0, ↓q_m1]
      obtain ⟨n, e0⟩ := lf0 (fun n k => f248_15 z n (nI y) (oI (stg (tY W y) k)) (nI k) M2) (W 0 4) z (by omega) (by
        intro n k hk
        have e9 := g227 (z := z) h1.w R (by omega) hk hy
        have hbk := h1.rb hy2 k
        rw [f248_15]
        cases hs : stg (tY W y) k with
        | none =>
          simp (disch := omega) only [n_0, n_1, n_2, n_3, n_4, n_5, n_6, n_7, n_8, n_9, n_10, n_12, n_13, n_16, n_30, n_60, n_61, n_86, n_99, n_100, n_200, n_201, n_1023, n_65535, n_10000, n_1000000, ↓q_m1, ↓q_m2, ↓q_m3, ↓q_m4, ↓q_m5, ↓q_m6, ↓q_m7, ↓q_m8, ↓q_m1000, ↓q_m100000, q_add, q_addm, q_inB, q_cl, q_le, q_lt, q_eq, q_eqm, q_meq, q_mltT, q_ltm, q_lem, q_mleT, if_true, if_false, if_pos, if_neg, Nat.reduceAdd, Nat.reduceMul, Nat.add_zero, Nat.zero_add, Nat.one_mul, not_true_eq_false, not_false_eq_true, u_row, u_self, u_ne, cb_bi, cb_bv, cb_bl, oI_n, oI_s, stg, hs, g178 r, cb_bi, e9]
        | some b =>
          have hb := stg_lt _ _ _ hs
          have f9 := g227 (z := z) h1.w R (by omega) (Nat.lt_trans hb hk) hy
          have hbb := h1.rb hy2 b
          by_cases hc0 : tY W y b < tY W y k
          · simp (disch := omega) only [n_0, n_1, n_2, n_3, n_4, n_5, n_6, n_7, n_8, n_9, n_10, n_12, n_13, n_16, n_30, n_60, n_61, n_86, n_99, n_100, n_200, n_201, n_1023, n_65535, n_10000, n_1000000, ↓q_m1, ↓q_m2, ↓q_m3, ↓q_m4, ↓q_m5, ↓q_m6, ↓q_m7, ↓q_m8, ↓q_m1000, ↓q_m100000, q_add, q_addm, q_inB, q_cl, q_le, q_lt, q_eq, q_eqm, q_meq, q_mltT, q_ltm, q_lem, q_mleT, if_true, if_false, if_pos, if_neg, Nat.reduceAdd, Nat.reduceMul, Nat.add_zero, Nat.zero_add, Nat.one_mul, not_true_eq_false, not_false_eq_true, u_row, u_self, u_ne, cb_bi, cb_bv, cb_bl, oI_n, oI_s, stg, hs, g178 r, cb_bi, e9, f9]
          · simp (disch := omega) only [n_0, n_1, n_2, n_3, n_4, n_5, n_6, n_7, n_8, n_9, n_10, n_12, n_13, n_16, n_30, n_60, n_61, n_86, n_99, n_100, n_200, n_201, n_1023, n_65535, n_10000, n_1000000, ↓q_m1, ↓q_m2, ↓q_m3, ↓q_m4, ↓q_m5, ↓q_m6, ↓q_m7, ↓q_m8, ↓q_m1000, ↓q_m100000, q_add, q_addm, q_inB, q_cl, q_le, q_lt, q_eq, q_eqm, q_meq, q_mltT, q_ltm, q_lem, q_mleT, if_true, if_false, if_pos, if_neg, Nat.reduceAdd, Nat.reduceMul, Nat.add_zero, Nat.zero_add, Nat.one_mul, not_true_eq_false, not_false_eq_true, u_row, u_self, u_ne, cb_bi, cb_bv, cb_bl, oI_n, oI_s, stg, hs, g178 r, cb_bi, e9, f9])
      refine Eq.trans e0 ?_
      rw [f248_15]
      simp (disch := omega) only [n_0, n_1, n_2, n_3, n_4, n_5, n_6, n_7, n_8, n_9, n_10, n_12, n_13, n_16, n_30, n_60, n_61, n_86, n_99, n_100, n_200, n_201, n_1023, n_65535, n_10000, n_1000000, ↓q_m1, ↓q_m2, ↓q_m3, ↓q_m4, ↓q_m5, ↓q_m6, ↓q_m7, ↓q_m8, ↓q_m1000, ↓q_m100000, q_add, q_addm, q_inB, q_cl, q_le, q_lt, q_eq, q_eqm, q_meq, q_mltT, q_ltm, q_lem, q_mleT, if_true, if_false, if_pos, if_neg, Nat.reduceAdd, Nat.reduceMul, Nat.add_zero, Nat.zero_add, Nat.one_mul, not_true_eq_false, not_false_eq_true, u_row, u_self, u_ne, cb_bi, cb_bv, cb_bl, g178 r, cb_bi]
  · refine PR.s h (v := -2) (by simp only [f98, k11f h.c h.w o0, cb_bi, i0f, i1f, i0n, i1n]) (fun M1 h1 => ?_)
    obtain ⟨M2, e, k⟩ := m_Yf hz h1 o0
    exact ⟨M2, by simp only [f248, e, cb_bi, i0f, i1f, i0n, i1n], k⟩
theorem P_weakest {z : Nat} (hz : 2000 ≤ z) {M : aM} {W : cW} (h : RW M W) (x1 : Int32) : PR (f99 z x1 M) (f249 z x1) := by
  by_cases o0 : okY W x1
  · obtain ⟨h7, y, hy, rfl⟩ := o0
    have hy2 : y ≤ W 0 0 := Nat.le_of_lt_succ hy
    have hN3 := h.n3
    have hN4 := h.n4
    have hN5 := h.n5
    have hN0 := h.n0
    refine PR.q h (v := oI (wkg (tY W y) (W 0 4))) (M1 := M) ?_ kR.id0 (fun M1 h1 => ?_)
    · simp only [f99, k11t h.c h.w h7 (Nat.le_of_lt_succ hy), cb_bi, i0f, i1f, i0n, i1n]
      simp (disch := omega) only [q_inB, q_cl, if_true, Nat.one_mul]
      simp only [n_0, ↓q_m1]
      obtain ⟨n, e0⟩ := lf0 (fun n k => f99_29 z n (33 + (1 + y)) (oI (wkg (tY W y) k)) (nI k) M) (W 0 4) z (by omega) (by
        intro n k hk
        have e9 := h.row hy2 hk
        have hbk := h.rb hy2 k
        rw [f99_29]
        by_cases hp : 0 < tY W y k
        · cases hs : wkg (tY W y) k with
          | none =>
            simp (disch := omega) only [n_0, n_1, n_2, n_3, n_4, n_5, n_6, n_7, n_8, n_9, n_10, n_12, n_13, n_16, n_30, n_60, n_61, n_86, n_99, n_100, n_200, n_201, n_1023, n_65535, n_10000, n_1000000, ↓q_m1, ↓q_m2, ↓q_m3, ↓q_m4, ↓q_m5, ↓q_m6, ↓q_m7, ↓q_m8, ↓q_m1000, ↓q_m100000, q_add, q_addm, q_inB, q_cl, q_le, q_lt, q_eq, q_eqm, q_meq, q_mltT, q_ltm, q_lem, q_mleT, if_true, if_false, if_pos, if_neg, Nat.reduceAdd, Nat.reduceMul, Nat.add_zero, Nat.zero_add, Nat.one_mul, not_true_eq_false, not_false_eq_true, u_row, u_self, u_ne, cb_bi, cb_bv, cb_bl, oI_n, oI_s, wkg, hs, h.c.i5, e9]
          | some b =>
            have hb := wkg_lt _ _ _ hs
            have f9 := h.row hy2 (Nat.lt_trans hb hk)
            have hbb := h.rb hy2 b
            by_cases hc0 : tY W y k < tY W y b
            · simp (disch := omega) only [n_0, n_1, n_2, n_3, n_4, n_5, n_6, n_7, n_8, n_9, n_10, n_12, n_13, n_16, n_30, n_60, n_61, n_86, n_99, n_100, n_200, n_201, n_1023, n_65535, n_10000, n_1000000, ↓q_m1, ↓q_m2, ↓q_m3, ↓q_m4, ↓q_m5, ↓q_m6, ↓q_m7, ↓q_m8, ↓q_m1000, ↓q_m100000, q_add, q_addm, q_inB, q_cl, q_le, q_lt, q_eq, q_eqm, q_meq, q_mltT, q_ltm, q_lem, q_mleT, if_true, if_false, if_pos, if_neg, Nat.reduceAdd, Nat.reduceMul, Nat.add_zero, Nat.zero_add, Nat.one_mul, not_true_eq_false, not_false_eq_true, u_row, u_self, u_ne, cb_bi, cb_bv, cb_bl, oI_n, oI_s, wkg, hs, h.c.i5, e9, f9]
            · simp (disch := omega) only [n_0, n_1, n_2, n_3, n_4, n_5, n_6, n_7, n_8, n_9, n_10, n_12, n_13, n_16, n_30, n_60, n_61, n_86, n_99, n_100, n_200, n_201, n_1023, n_65535, n_10000, n_1000000, ↓q_m1, ↓q_m2, ↓q_m3, ↓q_m4, ↓q_m5, ↓q_m6, ↓q_m7, ↓q_m8, ↓q_m1000, ↓q_m100000, q_add, q_addm, q_inB, q_cl, q_le, q_lt, q_eq, q_eqm, q_meq, q_mltT, q_ltm, q_lem, q_mleT, if_true, if_false, if_pos, if_neg, Nat.reduceAdd, Nat.reduceMul, Nat.add_zero, Nat.zero_add, Nat.one_mul, not_true_eq_false, not_false_eq_true, u_row, u_self, u_ne, cb_bi, cb_bv, cb_bl, oI_n, oI_s, wkg, hs, h.c.i5, e9, f9]
        · simp (disch := omega) only [n_0, n_1, n_2, n_3, n_4, n_5, n_6, n_7, n_8, n_9, n_10, n_12, n_13, n_16, n_30, n_60, n_61, n_86, n_99, n_100, n_200, n_201, n_1023, n_65535, n_10000, n_1000000, ↓q_m1, ↓q_m2, ↓q_m3, ↓q_m4, ↓q_m5, ↓q_m6, ↓q_m7, ↓q_m8, ↓q_m1000, ↓q_m100000, q_add, q_addm, q_inB, q_cl, q_le, q_lt, q_eq, q_eqm, q_meq, q_mltT, q_ltm, q_lem, q_mleT, if_true, if_false, if_pos, if_neg, Nat.reduceAdd, Nat.reduceMul, Nat.add_zero, Nat.zero_add, Nat.one_mul, not_true_eq_false, not_false_eq_true, u_row, u_self, u_ne, cb_bi, cb_bv, cb_bl, oI_n, oI_s, wkg, h.c.i5, e9])
      refine Eq.trans e0 ?_
      rw [f99_29]
      simp (disch := omega) only [n_0, n_1, n_2, n_3, n_4, n_5, n_6, n_7, n_8, n_9, n_10, n_12, n_13, n_16, n_30, n_60, n_61, n_86, n_99, n_100, n_200, n_201, n_1023, n_65535, n_10000, n_1000000, ↓q_m1, ↓q_m2, ↓q_m3, ↓q_m4, ↓q_m5, ↓q_m6, ↓q_m7, ↓q_m8, ↓q_m1000, ↓q_m100000, q_add, q_addm, q_inB, q_cl, q_le, q_lt, q_eq, q_eqm, q_meq, q_mltT, q_ltm, q_lem, q_mleT, if_true, if_false, if_pos, if_neg, Nat.reduceAdd, Nat.reduceMul, Nat.add_zero, Nat.zero_add, Nat.one_mul, not_true_eq_false, not_false_eq_true, u_row, u_self, u_ne, cb_bi, cb_bv, cb_bl, h.c.i5]
    · obtain ⟨M2, e, k, r, R⟩ := m_Yt hz h1 h7 (Nat.le_of_lt_succ hy)
      refine ⟨M2, ?_, k⟩
      simp only [f249, e, cb_bi, i0f, i1f, i0n, i1n]
      simp only [n_0, ↓q_m1]
      obtain ⟨n, e0⟩ := lf0 (fun n k => f249_15 z n (nI y) (oI (wkg (tY W y) k)) (nI k) M2) (W 0 4) z (by omega) (by
        intro n k hk
        have e9 := g227 (z := z) h1.w R (by omega) hk hy
        have hbk := h1.rb hy2 k
        rw [f249_15]
        by_cases hp : 0 < tY W y k
        · cases hs : wkg (tY W y) k with
          | none =>
            simp (disch := omega) only [n_0, n_1, n_2, n_3, n_4, n_5, n_6, n_7, n_8, n_9, n_10, n_12, n_13, n_16, n_30, n_60, n_61, n_86, n_99, n_100, n_200, n_201, n_1023, n_65535, n_10000, n_1000000, ↓q_m1, ↓q_m2, ↓q_m3, ↓q_m4, ↓q_m5, ↓q_m6, ↓q_m7, ↓q_m8, ↓q_m1000, ↓q_m100000, q_add, q_addm, q_inB, q_cl, q_le, q_lt, q_eq, q_eqm, q_meq, q_mltT, q_ltm, q_lem, q_mleT, if_true, if_false, if_pos, if_neg, Nat.reduceAdd, Nat.reduceMul, Nat.add_zero, Nat.zero_add, Nat.one_mul, not_true_eq_false, not_false_eq_true, u_row, u_self, u_ne, cb_bi, cb_bv, cb_bl, oI_n, oI_s, wkg, hs, g178 r, cb_bi, e9]
          | some b =>
            have hb := wkg_lt _ _ _ hs
            have f9 := g227 (z := z) h1.w R (by omega) (Nat.lt_trans hb hk) hy
            have hbb := h1.rb hy2 b
            by_cases hc0 : tY W y k < tY W y b
            · simp (disch := omega) only [n_0, n_1, n_2, n_3, n_4, n_5, n_6, n_7, n_8, n_9, n_10, n_12, n_13, n_16, n_30, n_60, n_61, n_86, n_99, n_100, n_200, n_201, n_1023, n_65535, n_10000, n_1000000, ↓q_m1, ↓q_m2, ↓q_m3, ↓q_m4, ↓q_m5, ↓q_m6, ↓q_m7, ↓q_m8, ↓q_m1000, ↓q_m100000, q_add, q_addm, q_inB, q_cl, q_le, q_lt, q_eq, q_eqm, q_meq, q_mltT, q_ltm, q_lem, q_mleT, if_true, if_false, if_pos, if_neg, Nat.reduceAdd, Nat.reduceMul, Nat.add_zero, Nat.zero_add, Nat.one_mul, not_true_eq_false, not_false_eq_true, u_row, u_self, u_ne, cb_bi, cb_bv, cb_bl, oI_n, oI_s, wkg, hs, g178 r, cb_bi, e9, f9]
            · simp (disch := omega) only [n_0, n_1, n_2, n_3, n_4, n_5, n_6, n_7, n_8, n_9, n_10, n_12, n_13, n_16, n_30, n_60, n_61, n_86, n_99, n_100, n_200, n_201, n_1023, n_65535, n_10000, n_1000000, ↓q_m1, ↓q_m2, ↓q_m3, ↓q_m4, ↓q_m5, ↓q_m6, ↓q_m7, ↓q_m8, ↓q_m1000, ↓q_m100000, q_add, q_addm, q_inB, q_cl, q_le, q_lt, q_eq, q_eqm, q_meq, q_mltT, q_ltm, q_lem, q_mleT, if_true, if_false, if_pos, if_neg, Nat.reduceAdd, Nat.reduceMul, Nat.add_zero, Nat.zero_add, Nat.one_mul, not_true_eq_false, not_false_eq_true, u_row, u_self, u_ne, cb_bi, cb_bv, cb_bl, oI_n, oI_s, wkg, hs, g178 r, cb_bi, e9, f9]
        · simp (disch := omega) only [n_0, n_1, n_2, n_3, n_4, n_5, n_6, n_7, n_8, n_9, n_10, n_12, n_13, n_16, n_30, n_60, n_61, n_86, n_99, n_100, n_200, n_201, n_1023, n_65535, n_10000, n_1000000, ↓q_m1, ↓q_m2, ↓q_m3, ↓q_m4, ↓q_m5, ↓q_m6, ↓q_m7, ↓q_m8, ↓q_m1000, ↓q_m100000, q_add, q_addm, q_inB, q_cl, q_le, q_lt, q_eq, q_eqm, q_meq, q_mltT, q_ltm, q_lem, q_mleT, if_true, if_false, if_pos, if_neg, Nat.reduceAdd, Nat.reduceMul, Nat.add_zero, Nat.zero_add, Nat.one_mul, not_true_eq_false, not_false_eq_true, u_row, u_self, u_ne, cb_bi, cb_bv, cb_bl, oI_n, oI_s, wkg, g178 r, cb_bi, e9])
      refine Eq.trans e0 ?_
      rw [f249_15]
      simp (disch := omega) only [n_0, n_1, n_2, n_3, n_4, n_5, n_6, n_7, n_8, n_9, n_10, n_12, n_13, n_16, n_30, n_60, n_61, n_86, n_99, n_100, n_200, n_201, n_1023, n_65535, n_10000, n_1000000, ↓q_m1, ↓q_m2, ↓q_m3, ↓q_m4, ↓q_m5, ↓q_m6, ↓q_m7, ↓q_m8, ↓q_m1000, ↓q_m100000, q_add, q_addm, q_inB, q_cl, q_le, q_lt, q_eq, q_eqm, q_meq, q_mltT, q_ltm, q_lem, q_mleT, if_true, if_false, if_pos, if_neg, Nat.reduceAdd, Nat.reduceMul, Nat.add_zero, Nat.zero_add, Nat.one_mul, not_true_eq_false, not_false_eq_true, u_row, u_self, u_ne, cb_bi, cb_bv, cb_bl, g178 r, cb_bi]
  · refine PR.s h (v := -2) (by simp only [f99, k11f h.c h.w o0, cb_bi, i0f, i1f, i0n, i1n]) (fun M1 h1 => ?_)
    obtain ⟨M2, e, k⟩ := m_Yf hz h1 o0
    exact ⟨M2, by simp only [f249, e, cb_bi, i0f, i1f, i0n, i1n], k⟩
def baB (W : cW) (s : Nat → Nat) : Nat → Bool := fun c => decide (nW s (thr W c) = 1)
theorem P_bare {z : Nat} (hz : 2000 ≤ z) {M : aM} {W : cW} (h : RW M W) (x1 : Int32) : PR (f101 z x1 M) (f247 z x1) := by
  by_cases o0 : okY W x1
  · obtain ⟨h7, y, hy, rfl⟩ := o0
    have hy2 : y ≤ W 0 0 := Nat.le_of_lt_succ hy
    have hN3 := h.n3
    have hN4 := h.n4
    have hN5 := h.n5
    have hN0 := h.n0
    refine PR.q h (v := nI (bN (baB W (tY W y)) (W 0 3))) (M1 := M) ?_ kR.id0 (fun M1 h1 => ?_)
    · simp only [f101, k11t h.c h.w h7 (Nat.le_of_lt_succ hy), cb_bi, i0f, i1f, i0n, i1n]
      simp only [n_0]
      obtain ⟨n, e0⟩ := lf0 (fun n k => f101_18 z n (nI y) (nI (bN (baB W (tY W y)) k)) (nI k) M) (W 0 3) z (by omega) (by
        intro n k hk
        have hwl : nW (tY W y) (thr W k) ≤ 16 := Nat.le_trans (nW_le _ _) (thr_len h.w k)
        have e9 := c_whole (z := z) (r := 33 + (1 + y)) (s := tY W y) (c := k) hz 67 h.w h.c (fun t ht => h.row hy2 ht) (fun t _ => h.rb hy2 t) (by omega)
        rw [bN_or1, f101_18]
        by_cases hc0 : nW (tY W y) (thr W k) = 1
        · have e1 : baB W (tY W y) k = true := by simp [baB, hc0]
          simp (disch := omega) only [n_0, n_1, n_2, n_3, n_4, n_5, n_6, n_7, n_8, n_9, n_10, n_12, n_13, n_16, n_30, n_60, n_61, n_86, n_99, n_100, n_200, n_201, n_1023, n_65535, n_10000, n_1000000, ↓q_m1, ↓q_m2, ↓q_m3, ↓q_m4, ↓q_m5, ↓q_m6, ↓q_m7, ↓q_m8, ↓q_m1000, ↓q_m100000, q_add, q_addm, q_inB, q_cl, q_le, q_lt, q_eq, q_eqm, q_meq, q_mltT, q_ltm, q_lem, q_mleT, if_true, if_false, if_pos, if_neg, Nat.reduceAdd, Nat.reduceMul, Nat.add_zero, Nat.zero_add, Nat.one_mul, not_true_eq_false, not_false_eq_true, u_row, u_self, u_ne, cb_bi, cb_bv, cb_bl, e1, q_shl, q_orN, n_31, h.c.i4, e9]
        · have e1 : baB W (tY W y) k = false := by simp [baB, hc0]
          simp (disch := omega) only [n_0, n_1, n_2, n_3, n_4, n_5, n_6, n_7, n_8, n_9, n_10, n_12, n_13, n_16, n_30, n_60, n_61, n_86, n_99, n_100, n_200, n_201, n_1023, n_65535, n_10000, n_1000000, ↓q_m1, ↓q_m2, ↓q_m3, ↓q_m4, ↓q_m5, ↓q_m6, ↓q_m7, ↓q_m8, ↓q_m1000, ↓q_m100000, q_add, q_addm, q_inB, q_cl, q_le, q_lt, q_eq, q_eqm, q_meq, q_mltT, q_ltm, q_lem, q_mleT, if_true, if_false, if_pos, if_neg, Nat.reduceAdd, Nat.reduceMul, Nat.add_zero, Nat.zero_add, Nat.one_mul, not_true_eq_false, not_false_eq_true, u_row, u_self, u_ne, cb_bi, cb_bv, cb_bl, e1, q_orN, Bool.false_eq_true, Nat.or_zero, h.c.i4, e9])
      refine Eq.trans e0 ?_
      rw [f101_18]
      simp (disch := omega) only [n_0, n_1, n_2, n_3, n_4, n_5, n_6, n_7, n_8, n_9, n_10, n_12, n_13, n_16, n_30, n_60, n_61, n_86, n_99, n_100, n_200, n_201, n_1023, n_65535, n_10000, n_1000000, ↓q_m1, ↓q_m2, ↓q_m3, ↓q_m4, ↓q_m5, ↓q_m6, ↓q_m7, ↓q_m8, ↓q_m1000, ↓q_m100000, q_add, q_addm, q_inB, q_cl, q_le, q_lt, q_eq, q_eqm, q_meq, q_mltT, q_ltm, q_lem, q_mleT, if_true, if_false, if_pos, if_neg, Nat.reduceAdd, Nat.reduceMul, Nat.add_zero, Nat.zero_add, Nat.one_mul, not_true_eq_false, not_false_eq_true, u_row, u_self, u_ne, cb_bi, cb_bv, cb_bl, h.c.i4]
    · obtain ⟨M2, e, k, r, R⟩ := m_Yt hz h1 h7 (Nat.le_of_lt_succ hy)
      refine ⟨M2, ?_, k⟩
      simp only [f247, e, cb_bi, i0f, i1f, i0n, i1n]
      simp only [n_0]
      obtain ⟨n, e0⟩ := lf0 (fun n k => f247_15 z n (nI y) (nI (bN (baB W (tY W y)) k)) (nI k) M2) (W 0 3) z (by omega) (by
        intro n k hk
        have hwl : nW (tY W y) (thr W k) ≤ 16 := Nat.le_trans (nW_le _ _) (thr_len h1.w k)
        have e8 := g209 (z := z) hz r h1.w (c := k) (by omega)
        have e9 := g229 (z := z) hz r h1.w R (by omega) hy (h1.rb hy2)
        have e5 : bN (frB W k) (W 0 4) &&& bN (sw (tY W y)) (W 0 4) < 65536 := Nat.lt_of_le_of_lt Nat.and_le_left (bN_lt16 _ hN4)
        have e6 := g171 (z := z) hz M2 (x := bN (frB W k) (W 0 4) &&& bN (sw (tY W y)) (W 0 4)) (by omega)
        have e7 : pc (bN (frB W k) (W 0 4) &&& bN (sw (tY W y)) (W 0 4)) = nW (tY W y) (thr W k) := by
          rw [bN_and, pc_bN _ hN4, thr_eq, nW_cnt]
        rw [bN_or1, f247_15]
        by_cases hc0 : nW (tY W y) (thr W k) = 1
        · have e1 : baB W (tY W y) k = true := by simp [baB, hc0]
          simp (disch := omega) only [n_0, n_1, n_2, n_3, n_4, n_5, n_6, n_7, n_8, n_9, n_10, n_12, n_13, n_16, n_30, n_60, n_61, n_86, n_99, n_100, n_200, n_201, n_1023, n_65535, n_10000, n_1000000, ↓q_m1, ↓q_m2, ↓q_m3, ↓q_m4, ↓q_m5, ↓q_m6, ↓q_m7, ↓q_m8, ↓q_m1000, ↓q_m100000, q_add, q_addm, q_inB, q_cl, q_le, q_lt, q_eq, q_eqm, q_meq, q_mltT, q_ltm, q_lem, q_mleT, if_true, if_false, if_pos, if_neg, Nat.reduceAdd, Nat.reduceMul, Nat.add_zero, Nat.zero_add, Nat.one_mul, not_true_eq_false, not_false_eq_true, u_row, u_self, u_ne, cb_bi, cb_bv, cb_bl, e1, q_shl, q_orN, n_31, g177 r, cb_bi, e8, e9, q_andB, e6, e7]
        · have e1 : baB W (tY W y) k = false := by simp [baB, hc0]
          simp (disch := omega) only [n_0, n_1, n_2, n_3, n_4, n_5, n_6, n_7, n_8, n_9, n_10, n_12, n_13, n_16, n_30, n_60, n_61, n_86, n_99, n_100, n_200, n_201, n_1023, n_65535, n_10000, n_1000000, ↓q_m1, ↓q_m2, ↓q_m3, ↓q_m4, ↓q_m5, ↓q_m6, ↓q_m7, ↓q_m8, ↓q_m1000, ↓q_m100000, q_add, q_addm, q_inB, q_cl, q_le, q_lt, q_eq, q_eqm, q_meq, q_mltT, q_ltm, q_lem, q_mleT, if_true, if_false, if_pos, if_neg, Nat.reduceAdd, Nat.reduceMul, Nat.add_zero, Nat.zero_add, Nat.one_mul, not_true_eq_false, not_false_eq_true, u_row, u_self, u_ne, cb_bi, cb_bv, cb_bl, e1, q_orN, Bool.false_eq_true, Nat.or_zero, g177 r, cb_bi, e8, e9, q_andB, e6, e7])
      refine Eq.trans e0 ?_
      rw [f247_15]
      simp (disch := omega) only [n_0, n_1, n_2, n_3, n_4, n_5, n_6, n_7, n_8, n_9, n_10, n_12, n_13, n_16, n_30, n_60, n_61, n_86, n_99, n_100, n_200, n_201, n_1023, n_65535, n_10000, n_1000000, ↓q_m1, ↓q_m2, ↓q_m3, ↓q_m4, ↓q_m5, ↓q_m6, ↓q_m7, ↓q_m8, ↓q_m1000, ↓q_m100000, q_add, q_addm, q_inB, q_cl, q_le, q_lt, q_eq, q_eqm, q_meq, q_mltT, q_ltm, q_lem, q_mleT, if_true, if_false, if_pos, if_neg, Nat.reduceAdd, Nat.reduceMul, Nat.add_zero, Nat.zero_add, Nat.one_mul, not_true_eq_false, not_false_eq_true, u_row, u_self, u_ne, cb_bi, cb_bv, cb_bl, g177 r, cb_bi]
  · refine PR.s h (v := -2) (by simp only [f101, k11f h.c h.w o0, cb_bi, i0f, i1f, i0n, i1n]) (fun M1 h1 => ?_)
    obtain ⟨M2, e, k⟩ := m_Yf hz h1 o0
    exact ⟨M2, by simp only [f247, e, cb_bi, i0f, i1f, i0n, i1n], k⟩
def stf (W : cW) (s : Nat → Nat) (c : Nat) : Nat → Nat
  | 0 => 0
  | n + 1 => stf W s c n + (if W 1 n = c then s n else 0)
theorem P_stuff {z : Nat} (hz : 2000 ≤ z) {M : aM} {W : cW} (h : RW M W) (x1 x2 : Int32) : PR (f103 z x1 x2 M) (f246 z x1 x2) := by
  by_cases o0 : okN (W 0 3) x1
  · obtain ⟨c, hc, rfl⟩ := o0
    by_cases o1 : okY W x2
    · obtain ⟨h7, y, hy, rfl⟩ := o1
      have hy2 : y ≤ W 0 0 := Nat.le_of_lt_succ hy
      have hN3 := h.n3
      have hN4 := h.n4
      have hN5 := h.n5
      have hN0 := h.n0
      refine PR.q h (v := nI (stf W (tY W y) c (W 0 4))) (M1 := M) ?_ kR.id0 (fun M1 h1 => ?_)
      · simp only [f103, k8t h.c h.w hc, k11t h.c h.w h7 (Nat.le_of_lt_succ hy), cb_bi, i0f, i1f, i0n, i1n]
        simp only [n_0]
        obtain ⟨n, e0⟩ := lf0 (fun n k => f103_30 z n (nI c) (nI y) (nI (stf W (tY W y) c k)) (nI k) M) (W 0 4) z (by omega) (by
          intro n k hk
          have e9 := h.row hy2 hk
          have e8 := h.c.fr hk
          have hw := (h.w.2.2.2.2.2.2.2.2.1 k hk).1
          rw [f103_30]
          by_cases hc0 : W 1 k = c
          · simp (disch := omega) only [n_0, n_1, n_2, n_3, n_4, n_5, n_6, n_7, n_8, n_9, n_10, n_12, n_13, n_16, n_30, n_60, n_61, n_86, n_99, n_100, n_200, n_201, n_1023, n_65535, n_10000, n_1000000, ↓q_m1, ↓q_m2, ↓q_m3, ↓q_m4, ↓q_m5, ↓q_m6, ↓q_m7, ↓q_m8, ↓q_m1000, ↓q_m100000, q_add, q_addm, q_inB, q_cl, q_le, q_lt, q_eq, q_eqm, q_meq, q_mltT, q_ltm, q_lem, q_mleT, if_true, if_false, if_pos, if_neg, Nat.reduceAdd, Nat.reduceMul, Nat.add_zero, Nat.zero_add, Nat.one_mul, not_true_eq_false, not_false_eq_true, u_row, u_self, u_ne, cb_bi, cb_bv, cb_bl, stf, h.c.i5, e9, e8]
          · simp (disch := omega) only [n_0, n_1, n_2, n_3, n_4, n_5, n_6, n_7, n_8, n_9, n_10, n_12, n_13, n_16, n_30, n_60, n_61, n_86, n_99, n_100, n_200, n_201, n_1023, n_65535, n_10000, n_1000000, ↓q_m1, ↓q_m2, ↓q_m3, ↓q_m4, ↓q_m5, ↓q_m6, ↓q_m7, ↓q_m8, ↓q_m1000, ↓q_m100000, q_add, q_addm, q_inB, q_cl, q_le, q_lt, q_eq, q_eqm, q_meq, q_mltT, q_ltm, q_lem, q_mleT, if_true, if_false, if_pos, if_neg, Nat.reduceAdd, Nat.reduceMul, Nat.add_zero, Nat.zero_add, Nat.one_mul, not_true_eq_false, not_false_eq_true, u_row, u_self, u_ne, cb_bi, cb_bv, cb_bl, stf, h.c.i5, e9, e8])
        refine Eq.trans e0 ?_
        rw [f103_30]
        simp (disch := omega) only [n_0, n_1, n_2, n_3, n_4, n_5, n_6, n_7, n_8, n_9, n_10, n_12, n_13, n_16, n_30, n_60, n_61, n_86, n_99, n_100, n_200, n_201, n_1023, n_65535, n_10000, n_1000000, ↓q_m1, ↓q_m2, ↓q_m3, ↓q_m4, ↓q_m5, ↓q_m6, ↓q_m7, ↓q_m8, ↓q_m1000, ↓q_m100000, q_add, q_addm, q_inB, q_cl, q_le, q_lt, q_eq, q_eqm, q_meq, q_mltT, q_ltm, q_lem, q_mleT, if_true, if_false, if_pos, if_neg, Nat.reduceAdd, Nat.reduceMul, Nat.add_zero, Nat.zero_add, Nat.one_mul, not_true_eq_false, not_false_eq_true, u_row, u_self, u_ne, cb_bi, cb_bv, cb_bl, h.c.i5]
      · obtain ⟨M2, e, k, r, R⟩ := m_Yt hz h1 h7 (Nat.le_of_lt_succ hy)
        refine ⟨M2, ?_, k⟩
        simp only [f246, e, k182t r h1.w hc, cb_bi, i0f, i1f, i0n, i1n]
        simp only [n_0]
        obtain ⟨n, e0⟩ := lf0 (fun n k => f246_24 z n (nI c) (nI y) (nI (stf W (tY W y) c k)) (nI k) M2) (W 0 4) z (by omega) (by
          intro n k hk
          have e9 := g227 (z := z) h1.w R (by omega) hk hy
          have e8 := g185 (z := z) r h1.w hk
          have hw := (h1.w.2.2.2.2.2.2.2.2.1 k hk).1
          rw [f246_24]
          by_cases hc0 : W 1 k = c
          · simp (disch := omega) only [n_0, n_1, n_2, n_3, n_4, n_5, n_6, n_7, n_8, n_9, n_10, n_12, n_13, n_16, n_30, n_60, n_61, n_86, n_99, n_100, n_200, n_201, n_1023, n_65535, n_10000, n_1000000, ↓q_m1, ↓q_m2, ↓q_m3, ↓q_m4, ↓q_m5, ↓q_m6, ↓q_m7, ↓q_m8, ↓q_m1000, ↓q_m100000, q_add, q_addm, q_inB, q_cl, q_le, q_lt, q_eq, q_eqm, q_meq, q_mltT, q_ltm, q_lem, q_mleT, if_true, if_false, if_pos, if_neg, Nat.reduceAdd, Nat.reduceMul, Nat.add_zero, Nat.zero_add, Nat.one_mul, not_true_eq_false, not_false_eq_true, u_row, u_self, u_ne, cb_bi, cb_bv, cb_bl, stf, g178 r, cb_bi, e9, e8]
          · simp (disch := omega) only [n_0, n_1, n_2, n_3, n_4, n_5, n_6, n_7, n_8, n_9, n_10, n_12, n_13, n_16, n_30, n_60, n_61, n_86, n_99, n_100, n_200, n_201, n_1023, n_65535, n_10000, n_1000000, ↓q_m1, ↓q_m2, ↓q_m3, ↓q_m4, ↓q_m5, ↓q_m6, ↓q_m7, ↓q_m8, ↓q_m1000, ↓q_m100000, q_add, q_addm, q_inB, q_cl, q_le, q_lt, q_eq, q_eqm, q_meq, q_mltT, q_ltm, q_lem, q_mleT, if_true, if_false, if_pos, if_neg, Nat.reduceAdd, Nat.reduceMul, Nat.add_zero, Nat.zero_add, Nat.one_mul, not_true_eq_false, not_false_eq_true, u_row, u_self, u_ne, cb_bi, cb_bv, cb_bl, stf, g178 r, cb_bi, e9, e8])
        refine Eq.trans e0 ?_
        rw [f246_24]
        simp (disch := omega) only [n_0, n_1, n_2, n_3, n_4, n_5, n_6, n_7, n_8, n_9, n_10, n_12, n_13, n_16, n_30, n_60, n_61, n_86, n_99, n_100, n_200, n_201, n_1023, n_65535, n_10000, n_1000000, ↓q_m1, ↓q_m2, ↓q_m3, ↓q_m4, ↓q_m5, ↓q_m6, ↓q_m7, ↓q_m8, ↓q_m1000, ↓q_m100000, q_add, q_addm, q_inB, q_cl, q_le, q_lt, q_eq, q_eqm, q_meq, q_mltT, q_ltm, q_lem, q_mleT, if_true, if_false, if_pos, if_neg, Nat.reduceAdd, Nat.reduceMul, Nat.add_zero, Nat.zero_add, Nat.one_mul, not_true_eq_false, not_false_eq_true, u_row, u_self, u_ne, cb_bi, cb_bv, cb_bl, g178 r, cb_bi]
    · refine PR.s h (v := -2) (by simp only [f103, k8t h.c h.w hc, k11f h.c h.w o1, cb_bi, i0f, i1f, i0n, i1n]) (fun M1 h1 => ?_)
      obtain ⟨M2, e, k⟩ := m_Yf hz h1 o1
      exact ⟨M2, by simp only [f246, e, cb_bi, i0f, i1f, i0n, i1n], k⟩
  · by_cases o1 : okY W x2
    · obtain ⟨h7, y, hy, rfl⟩ := o1
      refine PR.s h (v := -2) (by simp only [f103, k8f h.c h.w o0, k11t h.c h.w h7 (Nat.le_of_lt_succ hy), cb_bi, i0f, i1f, i0n, i1n]) (fun M1 h1 => ?_)
      obtain ⟨M2, e, k, r, R⟩ := m_Yt hz h1 h7 (Nat.le_of_lt_succ hy)
      exact ⟨M2, by simp only [f246, e, k182f r h1.w o0, cb_bi, i0f, i1f, i0n, i1n], k⟩
    · refine PR.s h (v := -2) (by simp only [f103, k8f h.c h.w o0, k11f h.c h.w o1, cb_bi, i0f, i1f, i0n, i1n]) (fun M1 h1 => ?_)
      obtain ⟨M2, e, k⟩ := m_Yf hz h1 o1
      exact ⟨M2, by simp only [f246, e, cb_bi, i0f, i1f, i0n, i1n], k⟩
