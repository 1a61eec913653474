/-! ===== questions about quarrels ===== -/
theorem RW.yi {M : aM} {W : cW} (h : RW M W) (q : Nat) : tY W 30 q ≤ 17 ∧ tY W 31 q < 65536 ∧ tY W 32 q ≤ 1000 ∧ tY W 33 q ≤ 1000 ∧ (tY W 30 q = 0 → tY W 32 q = 0) := lv_I h.w _ _ _ _ q
theorem RW.q0 {M : aM} {W : cW} (h : RW M W) {q : Nat} (hq : q < W 0 5) : M.1 58 q = nI (tY W 30 q) := (h.y.2.1 q hq).1
theorem RW.q1 {M : aM} {W : cW} (h : RW M W) {q : Nat} (hq : q < W 0 5) : M.1 59 q = nI (tY W 31 q) := (h.y.2.1 q hq).2.1
theorem RW.q2 {M : aM} {W : cW} (h : RW M W) {q : Nat} (hq : q < W 0 5) : M.1 60 q = nI (tY W 32 q) := (h.y.2.1 q hq).2.2.1
theorem RW.q3 {M : aM} {W : cW} (h : RW M W) {q : Nat} (hq : q < W 0 5) : M.1 61 q = nI (tY W 33 q) := (h.y.2.1 q hq).2.2.2
theorem RW.sh {M : aM} {W : cW} (h : RW M W) {q t : Nat} (hq : q < W 0 5) (h0 : tY W 30 q ≠ 0) (ht : t < W 0 4) : M.1 (47 + (1 + q)) t = nI (tY W (20 + q) t) := by
  rw [show 47 + (1 + q) = 32 + 16 + q by omega]
  exact h.y.2.2.1 q hq h0 t ht
theorem RW.t4 {M : aM} {W : cW} (h : RW M W) {t : Nat} (ht : t < W 0 4) : M.1 62 t = nI (tY W 34 t) := h.y.2.2.2.1 t ht
theorem RW.t5 {M : aM} {W : cW} (h : RW M W) {t : Nat} (ht : t < W 0 4) : M.1 63 t = nI (tY W 35 t) := h.y.2.2.2.2 t ht
theorem g252t {z : Nat} {M : aM} {W : cW} {Y : cY} {m q : Nat} (hW : wf W) (hR : zR M W Y m) (hq : q < W 0 5) (hb : Y 30 q ≤ 17) (h0 : Y 30 q ≠ 0) : f252 z (nI q) M = some (some (.inl (nI 1)), M) := by
  have hQ : W 0 5 ≤ 10 := hW.2.2.2.2.2.1
  have e := (hR.2.1 q hq).1
  unfold f252
  simp (disch := omega) only [n_0, n_1, n_2, n_3, n_4, n_5, n_6, n_7, n_8, n_9, n_10, n_12, n_13, n_16, n_30, n_60, n_61, n_86, n_99, n_100, n_200, n_201, n_1023, n_65535, n_10000, n_1000000, ↓q_m1, ↓q_m2, ↓q_m3, ↓q_m4, ↓q_m5, ↓q_m6, ↓q_m7, ↓q_m8, ↓q_m1000, ↓q_m100000, q_add, q_addm, q_inB, q_cl, q_le, q_lt, q_eq, q_eqm, q_meq, q_mltT, q_ltm, q_lem, q_mleT, if_true, if_false, if_pos, if_neg, Nat.reduceAdd, Nat.reduceMul, Nat.add_zero, Nat.zero_add, Nat.one_mul, not_true_eq_false, not_false_eq_true, u_row, u_self, u_ne, cb_bi, cb_bv, cb_bl, e, z1]
theorem g252f {z : Nat} {M : aM} {W : cW} {Y : cY} {m q : Nat} (hW : wf W) (hR : zR M W Y m) (hq : q < W 0 5) (h0 : Y 30 q = 0) : f252 z (nI q) M = some (some (.inl (nI 0)), M) := by
  have hQ : W 0 5 ≤ 10 := hW.2.2.2.2.2.1
  have e := (hR.2.1 q hq).1
  rw [h0] at e
  unfold f252
  simp (disch := omega) only [n_0, n_1, n_2, n_3, n_4, n_5, n_6, n_7, n_8, n_9, n_10, n_12, n_13, n_16, n_30, n_60, n_61, n_86, n_99, n_100, n_200, n_201, n_1023, n_65535, n_10000, n_1000000, ↓q_m1, ↓q_m2, ↓q_m3, ↓q_m4, ↓q_m5, ↓q_m6, ↓q_m7, ↓q_m8, ↓q_m1000, ↓q_m100000, q_add, q_addm, q_inB, q_cl, q_le, q_lt, q_eq, q_eqm, q_meq, q_mltT, q_ltm, q_lem, q_mleT, if_true, if_false, if_pos, if_neg, Nat.reduceAdd, Nat.reduceMul, Nat.add_zero, Nat.zero_add, Nat.one_mul, not_true_eq_false, not_false_eq_true, u_row, u_self, u_ne, cb_bi, cb_bv, cb_bl, e, z0]
theorem P_has {z : Nat} (hz : 2000 ≤ z) {M : aM} {W : cW} (h : RW M W) (x1 x2 : Int32) : PR (f105 z x1 x2 M) (f253 z x1 x2) := by
  by_cases o0 : okN (W 0 5) x1
  · obtain ⟨q, hq, rfl⟩ := o0
    by_cases o1 : okN (W 0 4) x2
    · obtain ⟨t, ht, rfl⟩ := o1
      have hN3 := h.n3
      have hN4 := h.n4
      have hN5 := h.n5
      have hN0 := h.n0
      refine PR.q h (v := if tY W 30 q = 0 then mI else nI (tY W (20 + q) t)) (M1 := M) ?_ kR.id0 (fun M1 h1 => ?_)
      · simp only [f105, k10t h.c h.w hq, k9t h.c h.w ht, cb_bi, i0f, i1f, i0n, i1n]
        have hi := h.yi q
        by_cases h0 : tY W 30 q = 0
        · rw [if_pos h0]
          simp (disch := omega) only [n_0, n_1, n_2, n_3, n_4, n_5, n_6, n_7, n_8, n_9, n_10, n_12, n_13, n_16, n_30, n_60, n_61, n_86, n_99, n_100, n_200, n_201, n_1023, n_65535, n_10000, n_1000000, ↓q_m1, ↓q_m2, ↓q_m3, ↓q_m4, ↓q_m5, ↓q_m6, ↓q_m7, ↓q_m8, ↓q_m1000, ↓q_m100000, q_add, q_addm, q_inB, q_cl, q_le, q_lt, q_eq, q_eqm, q_meq, q_mltT, q_ltm, q_lem, q_mleT, if_true, if_false, if_pos, if_neg, Nat.reduceAdd, Nat.reduceMul, Nat.add_zero, Nat.zero_add, Nat.one_mul, not_true_eq_false, not_false_eq_true, u_row, u_self, u_ne, cb_bi, cb_bv, cb_bl, h.q0 hq, h0]
        · rw [if_neg h0]
          simp (disch := omega) only [n_0, n_1, n_2, n_3, n_4, n_5, n_6, n_7, n_8, n_9, n_10, n_12, n_13, n_16, n_30, n_60, n_61, n_86, n_99, n_100, n_200, n_201, n_1023, n_65535, n_10000, n_1000000, ↓q_m1, ↓q_m2, ↓q_m3, ↓q_m4, ↓q_m5, ↓q_m6, ↓q_m7, ↓q_m8, ↓q_m1000, ↓q_m100000, q_add, q_addm, q_inB, q_cl, q_le, q_lt, q_eq, q_eqm, q_meq, q_mltT, q_ltm, q_lem, q_mleT, if_true, if_false, if_pos, if_neg, Nat.reduceAdd, Nat.reduceMul, Nat.add_zero, Nat.zero_add, Nat.one_mul, not_true_eq_false, not_false_eq_true, u_row, u_self, u_ne, cb_bi, cb_bv, cb_bl, h.q0 hq, h.sh hq h0 ht]
      · obtain ⟨M2, e, k, r, R⟩ := m_Qt hz h1 hq
        refine ⟨M2, ?_, k⟩
        simp only [f253, e, k183t r h1.w ht, cb_bi, i0f, i1f, i0n, i1n]
        have hi := h1.yi q
        by_cases h0 : tY W 30 q = 0
        · rw [if_pos h0]
          simp only [g252f h1.w R hq h0, cb_bi, i0f]
          rfl
        · rw [if_neg h0]
          have e9 := (R.2.2.1 q hq h0).2.2 t ht
          simp only [g252t h1.w R hq hi.1 h0, cb_bi, i1f]
          simp (disch := omega) only [n_0, n_1, n_2, n_3, n_4, n_5, n_6, n_7, n_8, n_9, n_10, n_12, n_13, n_16, n_30, n_60, n_61, n_86, n_99, n_100, n_200, n_201, n_1023, n_65535, n_10000, n_1000000, ↓q_m1, ↓q_m2, ↓q_m3, ↓q_m4, ↓q_m5, ↓q_m6, ↓q_m7, ↓q_m8, ↓q_m1000, ↓q_m100000, q_add, q_addm, q_inB, q_cl, q_le, q_lt, q_eq, q_eqm, q_meq, q_mltT, q_ltm, q_lem, q_mleT, if_true, if_false, if_pos, if_neg, Nat.reduceAdd, Nat.reduceMul, Nat.add_zero, Nat.zero_add, Nat.one_mul, not_true_eq_false, not_false_eq_true, u_row, u_self, u_ne, cb_bi, cb_bv, cb_bl, q_mul, e9]
    · refine PR.s h (v := -2) (by simp only [f105, k10t h.c h.w hq, k9f h.c h.w o1, cb_bi, i0f, i1f, i0n, i1n]) (fun M1 h1 => ?_)
      obtain ⟨M2, e, k, r, R⟩ := m_Qt hz h1 hq
      exact ⟨M2, by simp only [f253, e, k183f r h1.w o1, cb_bi, i0f, i1f, i0n, i1n], k⟩
  · by_cases o1 : okN (W 0 4) x2
    · obtain ⟨t, ht, rfl⟩ := o1
      refine PR.s h (v := -2) (by simp only [f105, k10f h.c h.w o0, k9t h.c h.w ht, cb_bi, i0f, i1f, i0n, i1n]) (fun M1 h1 => ?_)
      obtain ⟨M2, e, k⟩ := m_Qf hz h1 o0
      exact ⟨M2, by simp only [f253, e, cb_bi, i0f, i1f, i0n, i1n], k⟩
    · refine PR.s h (v := -2) (by simp only [f105, k10f h.c h.w o0, k9f h.c h.w o1, cb_bi, i0f, i1f, i0n, i1n]) (fun M1 h1 => ?_)
      obtain ⟨M2, e, k⟩ := m_Qf hz h1 o0
      exact ⟨M2, by simp only [f253, e, cb_bi, i0f, i1f, i0n, i1n], k⟩
theorem P_pulls {z : Nat} (hz : 2000 ≤ z) {M : aM} {W : cW} (h : RW M W) (x1 : Int32) : PR (f106 z x1 M) (f254 z x1) := by
  by_cases o0 : okN (W 0 5) x1
  · obtain ⟨q, hq, rfl⟩ := o0
    have hN3 := h.n3
    have hN4 := h.n4
    have hN5 := h.n5
    have hN0 := h.n0
    refine PR.q h (v := nI (tY W 30 q)) (M1 := M) ?_ kR.id0 (fun M1 h1 => ?_)
    · simp only [f106, k10t h.c h.w hq, cb_bi, i0f, i1f, i0n, i1n]
      simp (disch := omega) only [n_0, n_1, n_2, n_3, n_4, n_5, n_6, n_7, n_8, n_9, n_10, n_12, n_13, n_16, n_30, n_60, n_61, n_86, n_99, n_100, n_200, n_201, n_1023, n_65535, n_10000, n_1000000, ↓q_m1, ↓q_m2, ↓q_m3, ↓q_m4, ↓q_m5, ↓q_m6, ↓q_m7, ↓q_m8, ↓q_m1000, ↓q_m100000, q_add, q_addm, q_inB, q_cl, q_le, q_lt, q_eq, q_eqm, q_meq, q_mltT, q_ltm, q_lem, q_mleT, if_true, if_false, if_pos, if_neg, Nat.reduceAdd, Nat.reduceMul, Nat.add_zero, Nat.zero_add, Nat.one_mul, not_true_eq_false, not_false_eq_true, u_row, u_self, u_ne, cb_bi, cb_bv, cb_bl, h.q0 hq]
    · obtain ⟨M2, e, k, r, R⟩ := m_Qt hz h1 hq
      refine ⟨M2, ?_, k⟩
      simp only [f254, e, cb_bi, i0f, i1f, i0n, i1n]
      simp (disch := omega) only [n_0, n_1, n_2, n_3, n_4, n_5, n_6, n_7, n_8, n_9, n_10, n_12, n_13, n_16, n_30, n_60, n_61, n_86, n_99, n_100, n_200, n_201, n_1023, n_65535, n_10000, n_1000000, ↓q_m1, ↓q_m2, ↓q_m3, ↓q_m4, ↓q_m5, ↓q_m6, ↓q_m7, ↓q_m8, ↓q_m1000, ↓q_m100000, q_add, q_addm, q_inB, q_cl, q_le, q_lt, q_eq, q_eqm, q_meq, q_mltT, q_ltm, q_lem, q_mleT, if_true, if_false, if_pos, if_neg, Nat.reduceAdd, Nat.reduceMul, Nat.add_zero, Nat.zero_add, Nat.one_mul, not_true_eq_false, not_false_eq_true, u_row, u_self, u_ne, cb_bi, cb_bv, cb_bl, (R.2.1 q hq).1]
  · refine PR.s h (v := -2) (by simp only [f106, k10f h.c h.w o0, cb_bi, i0f, i1f, i0n, i1n]) (fun M1 h1 => ?_)
    obtain ⟨M2, e, k⟩ := m_Qf hz h1 o0
    exact ⟨M2, by simp only [f254, e, cb_bi, i0f, i1f, i0n, i1n], k⟩
theorem P_rips {z : Nat} (hz : 2000 ≤ z) {M : aM} {W : cW} (h : RW M W) (x1 : Int32) : PR (f107 z x1 M) (f255 z x1) := by
  by_cases o0 : okN (W 0 5) x1
  · obtain ⟨q, hq, rfl⟩ := o0
    have hN3 := h.n3
    have hN4 := h.n4
    have hN5 := h.n5
    have hN0 := h.n0
    refine PR.q h (v := nI (tY W 31 q)) (M1 := M) ?_ kR.id0 (fun M1 h1 => ?_)
    · simp only [f107, k10t h.c h.w hq, cb_bi, i0f, i1f, i0n, i1n]
      simp (disch := omega) only [n_0, n_1, n_2, n_3, n_4, n_5, n_6, n_7, n_8, n_9, n_10, n_12, n_13, n_16, n_30, n_60, n_61, n_86, n_99, n_100, n_200, n_201, n_1023, n_65535, n_10000, n_1000000, ↓q_m1, ↓q_m2, ↓q_m3, ↓q_m4, ↓q_m5, ↓q_m6, ↓q_m7, ↓q_m8, ↓q_m1000, ↓q_m100000, q_add, q_addm, q_inB, q_cl, q_le, q_lt, q_eq, q_eqm, q_meq, q_mltT, q_ltm, q_lem, q_mleT, if_true, if_false, if_pos, if_neg, Nat.reduceAdd, Nat.reduceMul, Nat.add_zero, Nat.zero_add, Nat.one_mul, not_true_eq_false, not_false_eq_true, u_row, u_self, u_ne, cb_bi, cb_bv, cb_bl, h.q1 hq]
    · obtain ⟨M2, e, k, r, R⟩ := m_Qt hz h1 hq
      refine ⟨M2, ?_, k⟩
      simp only [f255, e, cb_bi, i0f, i1f, i0n, i1n]
      simp (disch := omega) only [n_0, n_1, n_2, n_3, n_4, n_5, n_6, n_7, n_8, n_9, n_10, n_12, n_13, n_16, n_30, n_60, n_61, n_86, n_99, n_100, n_200, n_201, n_1023, n_65535, n_10000, n_1000000, ↓q_m1, ↓q_m2, ↓q_m3, ↓q_m4, ↓q_m5, ↓q_m6, ↓q_m7, ↓q_m8, ↓q_m1000, ↓q_m100000, q_add, q_addm, q_inB, q_cl, q_le, q_lt, q_eq, q_eqm, q_meq, q_mltT, q_ltm, q_lem, q_mleT, if_true, if_false, if_pos, if_neg, Nat.reduceAdd, Nat.reduceMul, Nat.add_zero, Nat.zero_add, Nat.one_mul, not_true_eq_false, not_false_eq_true, u_row, u_self, u_ne, cb_bi, cb_bv, cb_bl, (R.2.1 q hq).2]
  · refine PR.s h (v := -2) (by simp only [f107, k10f h.c h.w o0, cb_bi, i0f, i1f, i0n, i1n]) (fun M1 h1 => ?_)
    obtain ⟨M2, e, k⟩ := m_Qf hz h1 o0
    exact ⟨M2, by simp only [f255, e, cb_bi, i0f, i1f, i0n, i1n], k⟩
theorem P_through {z : Nat} (hz : 2000 ≤ z) {M : aM} {W : cW} (h : RW M W) (x1 : Int32) : PR (f108 z x1 M) (f256 z x1) := by
  by_cases o0 : okN (W 0 5) x1
  · obtain ⟨q, hq, rfl⟩ := o0
    have hN3 := h.n3
    have hN4 := h.n4
    have hN5 := h.n5
    have hN0 := h.n0
    refine PR.q h (v := if tY W 30 q = 0 then mI else nI (tY W 32 q)) (M1 := M) ?_ kR.id0 (fun M1 h1 => ?_)
    · simp only [f108, k10t h.c h.w hq, cb_bi, i0f, i1f, i0n, i1n]
      have hi := h.yi q
      by_cases h0 : tY W 30 q = 0
      · rw [if_pos h0]
        simp (disch := omega) only [n_0, n_1, n_2, n_3, n_4, n_5, n_6, n_7, n_8, n_9, n_10, n_12, n_13, n_16, n_30, n_60, n_61, n_86, n_99, n_100, n_200, n_201, n_1023, n_65535, n_10000, n_1000000, ↓q_m1, ↓q_m2, ↓q_m3, ↓q_m4, ↓q_m5, ↓q_m6, ↓q_m7, ↓q_m8, ↓q_m1000, ↓q_m100000, q_add, q_addm, q_inB, q_cl, q_le, q_lt, q_eq, q_eqm, q_meq, q_mltT, q_ltm, q_lem, q_mleT, if_true, if_false, if_pos, if_neg, Nat.reduceAdd, Nat.reduceMul, Nat.add_zero, Nat.zero_add, Nat.one_mul, not_true_eq_false, not_false_eq_true, u_row, u_self, u_ne, cb_bi, cb_bv, cb_bl, h.q0 hq, h0]
      · rw [if_neg h0]
        simp (disch := omega) only [n_0, n_1, n_2, n_3, n_4, n_5, n_6, n_7, n_8, n_9, n_10, n_12, n_13, n_16, n_30, n_60, n_61, n_86, n_99, n_100, n_200, n_201, n_1023, n_65535, n_10000, n_1000000, ↓q_m1, ↓q_m2, ↓q_m3, ↓q_m4, ↓q_m5, ↓q_m6, ↓q_m7, ↓q_m8, ↓q_m1000, ↓q_m100000, q_add, q_addm, q_inB, q_cl, q_le, q_lt, q_eq, q_eqm, q_meq, q_mltT, q_ltm, q_lem, q_mleT, if_true, if_false, if_pos, if_neg, Nat.reduceAdd, Nat.reduceMul, Nat.add_zero, Nat.zero_add, Nat.one_mul, not_true_eq_false, not_false_eq_true, u_row, u_self, u_ne, cb_bi, cb_bv, cb_bl, h.q0 hq, h.q2 hq]
    · obtain ⟨M2, e, k, r, R⟩ := m_Qt hz h1 hq
      refine ⟨M2, ?_, k⟩
      simp only [f256, e, cb_bi, i0f, i1f, i0n, i1n]
      have hi := h1.yi q
      by_cases h0 : tY W 30 q = 0
      · rw [if_pos h0]
        simp only [g252f h1.w R hq h0, cb_bi, i0f]
        rfl
      · rw [if_neg h0]
        have e9 := (R.2.2.1 q hq h0).1
        simp only [g252t h1.w R hq hi.1 h0, cb_bi, i1f]
        simp (disch := omega) only [n_0, n_1, n_2, n_3, n_4, n_5, n_6, n_7, n_8, n_9, n_10, n_12, n_13, n_16, n_30, n_60, n_61, n_86, n_99, n_100, n_200, n_201, n_1023, n_65535, n_10000, n_1000000, ↓q_m1, ↓q_m2, ↓q_m3, ↓q_m4, ↓q_m5, ↓q_m6, ↓q_m7, ↓q_m8, ↓q_m1000, ↓q_m100000, q_add, q_addm, q_inB, q_cl, q_le, q_lt, q_eq, q_eqm, q_meq, q_mltT, q_ltm, q_lem, q_mleT, if_true, if_false, if_pos, if_neg, Nat.reduceAdd, Nat.reduceMul, Nat.add_zero, Nat.zero_add, Nat.one_mul, not_true_eq_false, not_false_eq_true, u_row, u_self, u_ne, cb_bi, cb_bv, cb_bl, e9]
  · refine PR.s h (v := -2) (by simp only [f108, k10f h.c h.w o0, cb_bi, i0f, i1f, i0n, i1n]) (fun M1 h1 => ?_)
    obtain ⟨M2, e, k⟩ := m_Qf hz h1 o0
    exact ⟨M2, by simp only [f256, e, cb_bi, i0f, i1f, i0n, i1n], k⟩
theorem P_hem {z : Nat} (hz : 2000 ≤ z) {M : aM} {W : cW} (h : RW M W) (x1 : Int32) : PR (f109 z x1 M) (f257 z x1) := by
  by_cases o0 : okN (W 0 5) x1
  · obtain ⟨q, hq, rfl⟩ := o0
    have hN3 := h.n3
    have hN4 := h.n4
    have hN5 := h.n5
    have hN0 := h.n0
    refine PR.q h (v := if tY W 30 q = 0 then mI else nI (tY W 33 q)) (M1 := M) ?_ kR.id0 (fun M1 h1 => ?_)
    · simp only [f109, k10t h.c h.w hq, cb_bi, i0f, i1f, i0n, i1n]
      have hi := h.yi q
      by_cases h0 : tY W 30 q = 0
      · rw [if_pos h0]
        simp (disch := omega) only [n_0, n_1, n_2, n_3, n_4, n_5, n_6, n_7, n_8, n_9, n_10, n_12, n_13, n_16, n_30, n_60, n_61, n_86, n_99, n_100, n_200, n_201, n_1023, n_65535, n_10000, n_1000000, ↓q_m1, ↓q_m2, ↓q_m3, ↓q_m4, ↓q_m5, ↓q_m6, ↓q_m7, ↓q_m8, ↓q_m1000, ↓q_m100000, q_add, q_addm, q_inB, q_cl, q_le, q_lt, q_eq, q_eqm, q_meq, q_mltT, q_ltm, q_lem, q_mleT, if_true, if_false, if_pos, if_neg, Nat.reduceAdd, Nat.reduceMul, Nat.add_zero, Nat.zero_add, Nat.one_mul, not_true_eq_false, not_false_eq_true, u_row, u_self, u_ne, cb_bi, cb_bv, cb_bl, h.q0 hq, h0]
      · rw [if_neg h0]
        simp (disch := omega) only [n_0, n_1, n_2, n_3, n_4, n_5, n_6, n_7, n_8, n_9, n_10, n_12, n_13, n_16, n_30, n_60, n_61, n_86, n_99, n_100, n_200, n_201, n_1023, n_65535, n_10000, n_1000000, ↓q_m1, ↓q_m2, ↓q_m3, ↓q_m4, ↓q_m5, ↓q_m6, ↓q_m7, ↓q_m8, ↓q_m1000, ↓q_m100000, q_add, q_addm, q_inB, q_cl, q_le, q_lt, q_eq, q_eqm, q_meq, q_mltT, q_ltm, q_lem, q_mleT, if_true, if_false, if_pos, if_neg, Nat.reduceAdd, Nat.reduceMul, Nat.add_zero, Nat.zero_add, Nat.one_mul, not_true_eq_false, not_false_eq_true, u_row, u_self, u_ne, cb_bi, cb_bv, cb_bl, h.q0 hq, h.q3 hq]
    · obtain ⟨M2, e, k, r, R⟩ := m_Qt hz h1 hq
      refine ⟨M2, ?_, k⟩
      simp only [f257, e, cb_bi, i0f, i1f, i0n, i1n]
      have hi := h1.yi q
      by_cases h0 : tY W 30 q = 0
      · rw [if_pos h0]
        simp only [g252f h1.w R hq h0, cb_bi, i0f]
        rfl
      · rw [if_neg h0]
        have e9 := (R.2.2.1 q hq h0).2.1
        simp only [g252t h1.w R hq hi.1 h0, cb_bi, i1f]
        simp (disch := omega) only [n_0, n_1, n_2, n_3, n_4, n_5, n_6, n_7, n_8, n_9, n_10, n_12, n_13, n_16, n_30, n_60, n_61, n_86, n_99, n_100, n_200, n_201, n_1023, n_65535, n_10000, n_1000000, ↓q_m1, ↓q_m2, ↓q_m3, ↓q_m4, ↓q_m5, ↓q_m6, ↓q_m7, ↓q_m8, ↓q_m1000, ↓q_m100000, q_add, q_addm, q_inB, q_cl, q_le, q_lt, q_eq, q_eqm, q_meq, q_mltT, q_ltm, q_lem, q_mleT, if_true, if_false, if_pos, if_neg, Nat.reduceAdd, Nat.reduceMul, Nat.add_zero, Nat.zero_add, Nat.one_mul, not_true_eq_false, not_false_eq_true, u_row, u_self, u_ne, cb_bi, cb_bv, cb_bl, e9]
  · refine PR.s h (v := -2) (by simp only [f109, k10f h.c h.w o0, cb_bi, i0f, i1f, i0n, i1n]) (fun M1 h1 => ?_)
    obtain ⟨M2, e, k⟩ := m_Qf hz h1 o0
    exact ⟨M2, by simp only [f257, e, cb_bi, i0f, i1f, i0n, i1n], k⟩
def loB (W : cW) : Nat → Bool := fun q => decide (0 < tY W 32 q)
theorem P_loud {z : Nat} (hz : 2000 ≤ z) {M : aM} {W : cW} (h : RW M W) : PR (f110 z M) (f258 z ) := by
  by_cases o0 : 0 < W 0 7
  · have h7 := o0
    have hN3 := h.n3
    have hN4 := h.n4
    have hN5 := h.n5
    have hN0 := h.n0
    refine PR.q h (v := nI (bN (loB W) (W 0 5))) (M1 := M) ?_ kR.id0 (fun M1 h1 => ?_)
    · simp only [f110, k7t h.c h.w h7, cb_bi, i0f, i1f, i0n, i1n]
      simp only [n_0]
      obtain ⟨n, e0⟩ := lf0 (fun n k => f110_17 z n (nI (bN (loB W) k)) (nI k) M) (W 0 5) z (by omega) (by
        intro n k hk
        have hi := h.yi k
        have e9 := h.q2 hk
        rw [bN_or1, f110_17]
        by_cases hc0 : 0 < tY W 32 k
        · have e1 : loB W k = true := by simp [loB, hc0]
          simp (disch := omega) only [n_0, n_1, n_2, n_3, n_4, n_5, n_6, n_7, n_8, n_9, n_10, n_12, n_13, n_16, n_30, n_60, n_61, n_86, n_99, n_100, n_200, n_201, n_1023, n_65535, n_10000, n_1000000, ↓q_m1, ↓q_m2, ↓q_m3, ↓q_m4, ↓q_m5, ↓q_m6, ↓q_m7, ↓q_m8, ↓q_m1000, ↓q_m100000, q_add, q_addm, q_inB, q_cl, q_le, q_lt, q_eq, q_eqm, q_meq, q_mltT, q_ltm, q_lem, q_mleT, if_true, if_false, if_pos, if_neg, Nat.reduceAdd, Nat.reduceMul, Nat.add_zero, Nat.zero_add, Nat.one_mul, not_true_eq_false, not_false_eq_true, u_row, u_self, u_ne, cb_bi, cb_bv, cb_bl, e1, q_shl, q_orN, n_31, h.c.i6, e9]
        · have e1 : loB W k = false := by simp [loB, hc0]
          simp (disch := omega) only [n_0, n_1, n_2, n_3, n_4, n_5, n_6, n_7, n_8, n_9, n_10, n_12, n_13, n_16, n_30, n_60, n_61, n_86, n_99, n_100, n_200, n_201, n_1023, n_65535, n_10000, n_1000000, ↓q_m1, ↓q_m2, ↓q_m3, ↓q_m4, ↓q_m5, ↓q_m6, ↓q_m7, ↓q_m8, ↓q_m1000, ↓q_m100000, q_add, q_addm, q_inB, q_cl, q_le, q_lt, q_eq, q_eqm, q_meq, q_mltT, q_ltm, q_lem, q_mleT, if_true, if_false, if_pos, if_neg, Nat.reduceAdd, Nat.reduceMul, Nat.add_zero, Nat.zero_add, Nat.one_mul, not_true_eq_false, not_false_eq_true, u_row, u_self, u_ne, cb_bi, cb_bv, cb_bl, e1, q_orN, Bool.false_eq_true, Nat.or_zero, h.c.i6, e9])
      refine Eq.trans e0 ?_
      rw [f110_17]
      simp (disch := omega) only [n_0, n_1, n_2, n_3, n_4, n_5, n_6, n_7, n_8, n_9, n_10, n_12, n_13, n_16, n_30, n_60, n_61, n_86, n_99, n_100, n_200, n_201, n_1023, n_65535, n_10000, n_1000000, ↓q_m1, ↓q_m2, ↓q_m3, ↓q_m4, ↓q_m5, ↓q_m6, ↓q_m7, ↓q_m8, ↓q_m1000, ↓q_m100000, q_add, q_addm, q_inB, q_cl, q_le, q_lt, q_eq, q_eqm, q_meq, q_mltT, q_ltm, q_lem, q_mleT, if_true, if_false, if_pos, if_neg, Nat.reduceAdd, Nat.reduceMul, Nat.add_zero, Nat.zero_add, Nat.one_mul, not_true_eq_false, not_false_eq_true, u_row, u_self, u_ne, cb_bi, cb_bv, cb_bl, h.c.i6]
    · obtain ⟨M2, e, k, r, R⟩ := m_Ct hz h1 h7
      refine ⟨M2, ?_, k⟩
      simp only [f258, e, cb_bi, i0f, i1f, i0n, i1n]
      simp only [n_0]
      obtain ⟨n, e0⟩ := lf0 (fun n k => f258_14 z n (nI (bN (loB W) k)) (nI k) M2) (W 0 5) z (by omega) (by
        intro n k hk
        have hi := h1.yi k
        rw [bN_or1, f258_14]
        by_cases h0 : tY W 30 k = 0
        · have e1 : loB W k = false := by simp [loB, hi.2.2.2.2 h0]
          simp (disch := omega) only [n_0, n_1, n_2, n_3, n_4, n_5, n_6, n_7, n_8, n_9, n_10, n_12, n_13, n_16, n_30, n_60, n_61, n_86, n_99, n_100, n_200, n_201, n_1023, n_65535, n_10000, n_1000000, ↓q_m1, ↓q_m2, ↓q_m3, ↓q_m4, ↓q_m5, ↓q_m6, ↓q_m7, ↓q_m8, ↓q_m1000, ↓q_m100000, q_add, q_addm, q_inB, q_cl, q_le, q_lt, q_eq, q_eqm, q_meq, q_mltT, q_ltm, q_lem, q_mleT, if_true, if_false, if_pos, if_neg, Nat.reduceAdd, Nat.reduceMul, Nat.add_zero, Nat.zero_add, Nat.one_mul, not_true_eq_false, not_false_eq_true, u_row, u_self, u_ne, cb_bi, cb_bv, cb_bl, e1, q_orN, Bool.false_eq_true, Nat.or_zero, g179 r, cb_bi, g252f h1.w R hk h0]
        · have e9 := (R.2.2.1 k hk h0).1
          by_cases hc0 : 0 < tY W 32 k
          · have e1 : loB W k = true := by simp [loB, hc0]
            simp (disch := omega) only [n_0, n_1, n_2, n_3, n_4, n_5, n_6, n_7, n_8, n_9, n_10, n_12, n_13, n_16, n_30, n_60, n_61, n_86, n_99, n_100, n_200, n_201, n_1023, n_65535, n_10000, n_1000000, ↓q_m1, ↓q_m2, ↓q_m3, ↓q_m4, ↓q_m5, ↓q_m6, ↓q_m7, ↓q_m8, ↓q_m1000, ↓q_m100000, q_add, q_addm, q_inB, q_cl, q_le, q_lt, q_eq, q_eqm, q_meq, q_mltT, q_ltm, q_lem, q_mleT, if_true, if_false, if_pos, if_neg, Nat.reduceAdd, Nat.reduceMul, Nat.add_zero, Nat.zero_add, Nat.one_mul, not_true_eq_false, not_false_eq_true, u_row, u_self, u_ne, cb_bi, cb_bv, cb_bl, e1, q_shl, q_orN, n_31, g179 r, cb_bi, g252t h1.w R hk hi.1 h0, e9]
          · have e1 : loB W k = false := by simp [loB, hc0]
            simp (disch := omega) only [n_0, n_1, n_2, n_3, n_4, n_5, n_6, n_7, n_8, n_9, n_10, n_12, n_13, n_16, n_30, n_60, n_61, n_86, n_99, n_100, n_200, n_201, n_1023, n_65535, n_10000, n_1000000, ↓q_m1, ↓q_m2, ↓q_m3, ↓q_m4, ↓q_m5, ↓q_m6, ↓q_m7, ↓q_m8, ↓q_m1000, ↓q_m100000, q_add, q_addm, q_inB, q_cl, q_le, q_lt, q_eq, q_eqm, q_meq, q_mltT, q_ltm, q_lem, q_mleT, if_true, if_false, if_pos, if_neg, Nat.reduceAdd, Nat.reduceMul, Nat.add_zero, Nat.zero_add, Nat.one_mul, not_true_eq_false, not_false_eq_true, u_row, u_self, u_ne, cb_bi, cb_bv, cb_bl, e1, q_orN, Bool.false_eq_true, Nat.or_zero, g179 r, cb_bi, g252t h1.w R hk hi.1 h0, e9])
      refine Eq.trans e0 ?_
      rw [f258_14]
      simp (disch := omega) only [n_0, n_1, n_2, n_3, n_4, n_5, n_6, n_7, n_8, n_9, n_10, n_12, n_13, n_16, n_30, n_60, n_61, n_86, n_99, n_100, n_200, n_201, n_1023, n_65535, n_10000, n_1000000, ↓q_m1, ↓q_m2, ↓q_m3, ↓q_m4, ↓q_m5, ↓q_m6, ↓q_m7, ↓q_m8, ↓q_m1000, ↓q_m100000, q_add, q_addm, q_inB, q_cl, q_le, q_lt, q_eq, q_eqm, q_meq, q_mltT, q_ltm, q_lem, q_mleT, if_true, if_false, if_pos, if_neg, Nat.reduceAdd, Nat.reduceMul, Nat.add_zero, Nat.zero_add, Nat.one_mul, not_true_eq_false, not_false_eq_true, u_row, u_self, u_ne, cb_bi, cb_bv, cb_bl, g179 r, cb_bi]
  · refine PR.s h (v := -2) (by simp only [f110, k7f h.c o0, cb_bi, i0f, i1f, i0n, i1n]) (fun M1 h1 => ?_)
    obtain ⟨M2, e, k⟩ := m_Cf hz h1 o0
    exact ⟨M2, by simp only [f258, e, cb_bi, i0f, i1f, i0n, i1n], k⟩
def wzV (Y : cY) (o : Option Nat) : Nat := match o with
  | none => 0
  | some b => pc (Y 31 b)
def wzB (Y : cY) : Nat → Option Nat
  | 0 => none
  | n + 1 => if wzV Y (wzB Y n) < pc (Y 31 n) then some n else wzB Y n
theorem wzB_lt (Y : cY) : ∀ n b, wzB Y n = some b → b < n
  | 0, _, h => by cases h
  | n + 1, b, h => by
    unfold wzB at h
    split at h
    · cases h; omega
    · have := wzB_lt Y n b h
      omega
theorem pcS_le (x : Nat) : ∀ n, pcS x n ≤ n
  | 0 => Nat.le_refl _
  | n + 1 => by
    have := pcS_le x n
    have := bt_lt x n
    show pcS x n + bt x n ≤ n + 1
    omega
theorem pc_le (x : Nat) : pc x ≤ 16 := pcS_le x 16
theorem wzV_le (Y : cY) (o : Option Nat) : wzV Y o ≤ 16 := by
  unfold wzV
  split
  · omega
  · exact pc_le _
theorem P_worst {z : Nat} (hz : 2000 ≤ z) {M : aM} {W : cW} (h : RW M W) : PR (f111 z M) (f259 z ) := by
  by_cases o0 : 0 < W 0 7
  · have h7 := o0
    have hN3 := h.n3
    have hN4 := h.n4
    have hN5 := h.n5
    have hN0 := h.n0
    refine PR.q h (v := oI (wzB (tY W) (W 0 5))) (M1 := M) ?_ kR.id0 (fun M1 h1 => ?_)
    · simp only [f111, k7t h.c h.w h7, cb_bi, i0f, i1f, i0n, i1n]
      simp only [n_0, ↓q_m1]
      obtain ⟨n, e0⟩ := lf0 (fun n k => f111_19 z n (oI (wzB (tY W) k)) (nI (wzV (tY W) (wzB (tY W) k))) (nI k) M) (W 0 5) z (by omega) (by
        intro n k hk
        have hi := h.yi k
        have e9 := h.q1 hk
        have e8 := g328 z M hi.2.1
        have l1 := pc_le (tY W 31 k)
        have l2 := wzV_le (tY W) (wzB (tY W) k)
        rw [f111_19]
        by_cases hc0 : wzV (tY W) (wzB (tY W) k) < pc (tY W 31 k)
        · have e1 : wzB (tY W) (k + 1) = some k := if_pos hc0
          rw [e1]
          have e2 : wzV (tY W) (some k) = pc (tY W 31 k) := rfl
          simp (disch := omega) only [n_0, n_1, n_2, n_3, n_4, n_5, n_6, n_7, n_8, n_9, n_10, n_12, n_13, n_16, n_30, n_60, n_61, n_86, n_99, n_100, n_200, n_201, n_1023, n_65535, n_10000, n_1000000, ↓q_m1, ↓q_m2, ↓q_m3, ↓q_m4, ↓q_m5, ↓q_m6, ↓q_m7, ↓q_m8, ↓q_m1000, ↓q_m100000, q_add, q_addm, q_inB, q_cl, q_le, q_lt, q_eq, q_eqm, q_meq, q_mltT, q_ltm, q_lem, q_mleT, if_true, if_false, if_pos, if_neg, Nat.reduceAdd, Nat.reduceMul, Nat.add_zero, Nat.zero_add, Nat.one_mul, not_true_eq_false, not_false_eq_true, u_row, u_self, u_ne, cb_bi, cb_bv, cb_bl, h.c.i6, e9, e8, oI_s, e2]
        · have e1 : wzB (tY W) (k + 1) = wzB (tY W) k := if_neg hc0
          rw [e1]
          simp (disch := omega) only [n_0, n_1, n_2, n_3, n_4, n_5, n_6, n_7, n_8, n_9, n_10, n_12, n_13, n_16, n_30, n_60, n_61, n_86, n_99, n_100, n_200, n_201, n_1023, n_65535, n_10000, n_1000000, ↓q_m1, ↓q_m2, ↓q_m3, ↓q_m4, ↓q_m5, ↓q_m6, ↓q_m7, ↓q_m8, ↓q_m1000, ↓q_m100000, q_add, q_addm, q_inB, q_cl, q_le, q_lt, q_eq, q_eqm, q_meq, q_mltT, q_ltm, q_lem, q_mleT, if_true, if_false, if_pos, if_neg, Nat.reduceAdd, Nat.reduceMul, Nat.add_zero, Nat.zero_add, Nat.one_mul, not_true_eq_false, not_false_eq_true, u_row, u_self, u_ne, cb_bi, cb_bv, cb_bl, h.c.i6, e9, e8])
      refine Eq.trans e0 ?_
      rw [f111_19]
      simp (disch := omega) only [n_0, n_1, n_2, n_3, n_4, n_5, n_6, n_7, n_8, n_9, n_10, n_12, n_13, n_16, n_30, n_60, n_61, n_86, n_99, n_100, n_200, n_201, n_1023, n_65535, n_10000, n_1000000, ↓q_m1, ↓q_m2, ↓q_m3, ↓q_m4, ↓q_m5, ↓q_m6, ↓q_m7, ↓q_m8, ↓q_m1000, ↓q_m100000, q_add, q_addm, q_inB, q_cl, q_le, q_lt, q_eq, q_eqm, q_meq, q_mltT, q_ltm, q_lem, q_mleT, if_true, if_false, if_pos, if_neg, Nat.reduceAdd, Nat.reduceMul, Nat.add_zero, Nat.zero_add, Nat.one_mul, not_true_eq_false, not_false_eq_true, u_row, u_self, u_ne, cb_bi, cb_bv, cb_bl, h.c.i6]
    · obtain ⟨M2, e, k, r, R⟩ := m_Ct hz h1 h7
      refine ⟨M2, ?_, k⟩
      simp only [f259, e, cb_bi, i0f, i1f, i0n, i1n]
      simp only [n_0, ↓q_m1]
      obtain ⟨n, e0⟩ := lf0 (fun n k => f259_14 z n (oI (wzB (tY W) k)) (nI k) M2) (W 0 5) z (by omega) (by
        intro n k hk
        have hi := h1.yi k
        have e9 := (R.2.1 k hk).2
        have e8 := g171 (z := z) hz M2 (x := tY W 31 k) (by omega)
        have l1 := pc_le (tY W 31 k)
        have l2 := wzV_le (tY W) (wzB (tY W) k)
        rw [f259_14]
        cases hs : wzB (tY W) k with
        | none =>
          have l3 : wzV (tY W) none = 0 := rfl
          by_cases hc0 : 0 < pc (tY W 31 k)
          · have e1 : wzB (tY W) (k + 1) = some k := by unfold wzB; rw [hs]; exact if_pos hc0
            rw [e1]
            simp (disch := omega) only [n_0, n_1, n_2, n_3, n_4, n_5, n_6, n_7, n_8, n_9, n_10, n_12, n_13, n_16, n_30, n_60, n_61, n_86, n_99, n_100, n_200, n_201, n_1023, n_65535, n_10000, n_1000000, ↓q_m1, ↓q_m2, ↓q_m3, ↓q_m4, ↓q_m5, ↓q_m6, ↓q_m7, ↓q_m8, ↓q_m1000, ↓q_m100000, q_add, q_addm, q_inB, q_cl, q_le, q_lt, q_eq, q_eqm, q_meq, q_mltT, q_ltm, q_lem, q_mleT, if_true, if_false, if_pos, if_neg, Nat.reduceAdd, Nat.reduceMul, Nat.add_zero, Nat.zero_add, Nat.one_mul, not_true_eq_false, not_false_eq_true, u_row, u_self, u_ne, cb_bi, cb_bv, cb_bl, g179 r, cb_bi, e9, e8, oI_s, oI_n]
          · have e1 : wzB (tY W) (k + 1) = none := by unfold wzB; rw [hs]; exact if_neg hc0
            rw [e1]
            simp (disch := omega) only [n_0, n_1, n_2, n_3, n_4, n_5, n_6, n_7, n_8, n_9, n_10, n_12, n_13, n_16, n_30, n_60, n_61, n_86, n_99, n_100, n_200, n_201, n_1023, n_65535, n_10000, n_1000000, ↓q_m1, ↓q_m2, ↓q_m3, ↓q_m4, ↓q_m5, ↓q_m6, ↓q_m7, ↓q_m8, ↓q_m1000, ↓q_m100000, q_add, q_addm, q_inB, q_cl, q_le, q_lt, q_eq, q_eqm, q_meq, q_mltT, q_ltm, q_lem, q_mleT, if_true, if_false, if_pos, if_neg, Nat.reduceAdd, Nat.reduceMul, Nat.add_zero, Nat.zero_add, Nat.one_mul, not_true_eq_false, not_false_eq_true, u_row, u_self, u_ne, cb_bi, cb_bv, cb_bl, g179 r, cb_bi, e9, e8, oI_s, oI_n]
        | some b =>
          have hb := wzB_lt _ _ _ hs
          have hib := h1.yi b
          have f9 := (R.2.1 b (by omega)).2
          have f8 := g171 (z := z) hz M2 (x := tY W 31 b) (by omega)
          have l4 := pc_le (tY W 31 b)
          by_cases hc0 : pc (tY W 31 b) < pc (tY W 31 k)
          · have e1 : wzB (tY W) (k + 1) = some k := by unfold wzB; rw [hs]; exact if_pos hc0
            rw [e1]
            simp (disch := omega) only [n_0, n_1, n_2, n_3, n_4, n_5, n_6, n_7, n_8, n_9, n_10, n_12, n_13, n_16, n_30, n_60, n_61, n_86, n_99, n_100, n_200, n_201, n_1023, n_65535, n_10000, n_1000000, ↓q_m1, ↓q_m2, ↓q_m3, ↓q_m4, ↓q_m5, ↓q_m6, ↓q_m7, ↓q_m8, ↓q_m1000, ↓q_m100000, q_add, q_addm, q_inB, q_cl, q_le, q_lt, q_eq, q_eqm, q_meq, q_mltT, q_ltm, q_lem, q_mleT, if_true, if_false, if_pos, if_neg, Nat.reduceAdd, Nat.reduceMul, Nat.add_zero, Nat.zero_add, Nat.one_mul, not_true_eq_false, not_false_eq_true, u_row, u_self, u_ne, cb_bi, cb_bv, cb_bl, g179 r, cb_bi, e9, e8, f9, f8, oI_s]
          · have e1 : wzB (tY W) (k + 1) = some b := by unfold wzB; rw [hs]; exact if_neg hc0
            rw [e1]
            simp (disch := omega) only [n_0, n_1, n_2, n_3, n_4, n_5, n_6, n_7, n_8, n_9, n_10, n_12, n_13, n_16, n_30, n_60, n_61, n_86, n_99, n_100, n_200, n_201, n_1023, n_65535, n_10000, n_1000000, ↓q_m1, ↓q_m2, ↓q_m3, ↓q_m4, ↓q_m5, ↓q_m6, ↓q_m7, ↓q_m8, ↓q_m1000, ↓q_m100000, q_add, q_addm, q_inB, q_cl, q_le, q_lt, q_eq, q_eqm, q_meq, q_mltT, q_ltm, q_lem, q_mleT, if_true, if_false, if_pos, if_neg, Nat.reduceAdd, Nat.reduceMul, Nat.add_zero, Nat.zero_add, Nat.one_mul, not_true_eq_false, not_false_eq_true, u_row, u_self, u_ne, cb_bi, cb_bv, cb_bl, g179 r, cb_bi, e9, e8, f9, f8, oI_s])
      refine Eq.trans e0 ?_
      rw [f259_14]
      simp (disch := omega) only [n_0, n_1, n_2, n_3, n_4, n_5, n_6, n_7, n_8, n_9, n_10, n_12, n_13, n_16, n_30, n_60, n_61, n_86, n_99, n_100, n_200, n_201, n_1023, n_65535, n_10000, n_1000000, ↓q_m1, ↓q_m2, ↓q_m3, ↓q_m4, ↓q_m5, ↓q_m6, ↓q_m7, ↓q_m8, ↓q_m1000, ↓q_m100000, q_add, q_addm, q_inB, q_cl, q_le, q_lt, q_eq, q_eqm, q_meq, q_mltT, q_ltm, q_lem, q_mleT, if_true, if_false, if_pos, if_neg, Nat.reduceAdd, Nat.reduceMul, Nat.add_zero, Nat.zero_add, Nat.one_mul, not_true_eq_false, not_false_eq_true, u_row, u_self, u_ne, cb_bi, cb_bv, cb_bl, g179 r, cb_bi]
  · refine PR.s h (v := -2) (by simp only [f111, k7f h.c o0, cb_bi, i0f, i1f, i0n, i1n]) (fun M1 h1 => ?_)
    obtain ⟨M2, e, k⟩ := m_Cf hz h1 o0
    exact ⟨M2, by simp only [f259, e, cb_bi, i0f, i1f, i0n, i1n], k⟩
theorem P_bears {z : Nat} (hz : 2000 ≤ z) {M : aM} {W : cW} (h : RW M W) (x1 : Int32) : PR (f112 z x1 M) (f260 z x1) := by
  by_cases o0 : okN (W 0 4) x1
  · obtain ⟨t, ht, rfl⟩ := o0
    have hN3 := h.n3
    have hN4 := h.n4
    have hN5 := h.n5
    have hN0 := h.n0
    refine PR.q h (v := nI (tY W 34 t)) (M1 := M) ?_ kR.id0 (fun M1 h1 => ?_)
    · simp only [f112, k9t h.c h.w ht, cb_bi, i0f, i1f, i0n, i1n]
      simp (disch := omega) only [n_0, n_1, n_2, n_3, n_4, n_5, n_6, n_7, n_8, n_9, n_10, n_12, n_13, n_16, n_30, n_60, n_61, n_86, n_99, n_100, n_200, n_201, n_1023, n_65535, n_10000, n_1000000, ↓q_m1, ↓q_m2, ↓q_m3, ↓q_m4, ↓q_m5, ↓q_m6, ↓q_m7, ↓q_m8, ↓q_m1000, ↓q_m100000, q_add, q_addm, q_inB, q_cl, q_le, q_lt, q_eq, q_eqm, q_meq, q_mltT, q_ltm, q_lem, q_mleT, if_true, if_false, if_pos, if_neg, Nat.reduceAdd, Nat.reduceMul, Nat.add_zero, Nat.zero_add, Nat.one_mul, not_true_eq_false, not_false_eq_true, u_row, u_self, u_ne, cb_bi, cb_bv, cb_bl, h.t4 ht]
    · obtain ⟨M2, e, k, r, R⟩ := m_C hz h1
      refine ⟨M2, ?_, k⟩
      simp only [f260, e, k183t r h1.w ht, cb_bi, i0f, i1f, i0n, i1n]
      simp (disch := omega) only [n_0, n_1, n_2, n_3, n_4, n_5, n_6, n_7, n_8, n_9, n_10, n_12, n_13, n_16, n_30, n_60, n_61, n_86, n_99, n_100, n_200, n_201, n_1023, n_65535, n_10000, n_1000000, ↓q_m1, ↓q_m2, ↓q_m3, ↓q_m4, ↓q_m5, ↓q_m6, ↓q_m7, ↓q_m8, ↓q_m1000, ↓q_m100000, q_add, q_addm, q_inB, q_cl, q_le, q_lt, q_eq, q_eqm, q_meq, q_mltT, q_ltm, q_lem, q_mleT, if_true, if_false, if_pos, if_neg, Nat.reduceAdd, Nat.reduceMul, Nat.add_zero, Nat.zero_add, Nat.one_mul, not_true_eq_false, not_false_eq_true, u_row, u_self, u_ne, cb_bi, cb_bv, cb_bl, R.2.2.2.1 t ht]
  · refine PR.s h (v := -2) (by simp only [f112, k9f h.c h.w o0, cb_bi, i0f, i1f, i0n, i1n]) (fun M1 h1 => ?_)
    obtain ⟨M2, e, k, r, R⟩ := m_C hz h1
    exact ⟨M2, by simp only [f260, e, k183f r h1.w o0, cb_bi, i0f, i1f, i0n, i1n], k⟩
theorem P_worn {z : Nat} (hz : 2000 ≤ z) {M : aM} {W : cW} (h : RW M W) (x1 : Int32) : PR (f113 z x1 M) (f261 z x1) := by
  by_cases o0 : okN (W 0 4) x1
  · obtain ⟨t, ht, rfl⟩ := o0
    have hN3 := h.n3
    have hN4 := h.n4
    have hN5 := h.n5
    have hN0 := h.n0
    refine PR.q h (v := nI (tY W 35 t)) (M1 := M) ?_ kR.id0 (fun M1 h1 => ?_)
    · simp only [f113, k9t h.c h.w ht, cb_bi, i0f, i1f, i0n, i1n]
      simp (disch := omega) only [n_0, n_1, n_2, n_3, n_4, n_5, n_6, n_7, n_8, n_9, n_10, n_12, n_13, n_16, n_30, n_60, n_61, n_86, n_99, n_100, n_200, n_201, n_1023, n_65535, n_10000, n_1000000, ↓q_m1, ↓q_m2, ↓q_m3, ↓q_m4, ↓q_m5, ↓q_m6, ↓q_m7, ↓q_m8, ↓q_m1000, ↓q_m100000, q_add, q_addm, q_inB, q_cl, q_le, q_lt, q_eq, q_eqm, q_meq, q_mltT, q_ltm, q_lem, q_mleT, if_true, if_false, if_pos, if_neg, Nat.reduceAdd, Nat.reduceMul, Nat.add_zero, Nat.zero_add, Nat.one_mul, not_true_eq_false, not_false_eq_true, u_row, u_self, u_ne, cb_bi, cb_bv, cb_bl, h.t5 ht]
    · obtain ⟨M2, e, k, r, R⟩ := m_C hz h1
      refine ⟨M2, ?_, k⟩
      simp only [f261, e, k183t r h1.w ht, cb_bi, i0f, i1f, i0n, i1n]
      simp (disch := omega) only [n_0, n_1, n_2, n_3, n_4, n_5, n_6, n_7, n_8, n_9, n_10, n_12, n_13, n_16, n_30, n_60, n_61, n_86, n_99, n_100, n_200, n_201, n_1023, n_65535, n_10000, n_1000000, ↓q_m1, ↓q_m2, ↓q_m3, ↓q_m4, ↓q_m5, ↓q_m6, ↓q_m7, ↓q_m8, ↓q_m1000, ↓q_m100000, q_add, q_addm, q_inB, q_cl, q_le, q_lt, q_eq, q_eqm, q_meq, q_mltT, q_ltm, q_lem, q_mleT, if_true, if_false, if_pos, if_neg, Nat.reduceAdd, Nat.reduceMul, Nat.add_zero, Nat.zero_add, Nat.one_mul, not_true_eq_false, not_false_eq_true, u_row, u_self, u_ne, cb_bi, cb_bv, cb_bl, R.2.2.2.2 t ht]
  · refine PR.s h (v := -2) (by simp only [f113, k9f h.c h.w o0, cb_bi, i0f, i1f, i0n, i1n]) (fun M1 h1 => ?_)
    obtain ⟨M2, e, k, r, R⟩ := m_C hz h1
    exact ⟨M2, by simp only [f261, e, k183f r h1.w o0, cb_bi, i0f, i1f, i0n, i1n], k⟩
def idB (W : cW) : Nat → Bool := fun t => decide (nI (tY W 34 t) = nI 0)
theorem P_idle {z : Nat} (hz : 2000 ≤ z) {M : aM} {W : cW} (h : RW M W) : PR (f114 z M) (f262 z ) := by
  by_cases o0 : 0 < W 0 7
  · have h7 := o0
    have hN3 := h.n3
    have hN4 := h.n4
    have hN5 := h.n5
    have hN0 := h.n0
    refine PR.q h (v := nI (bN (idB W) (W 0 4))) (M1 := M) ?_ kR.id0 (fun M1 h1 => ?_)
    · simp only [f114, k7t h.c h.w h7, cb_bi, i0f, i1f, i0n, i1n]
      simp only [n_0]
      obtain ⟨n, e0⟩ := lf0 (fun n k => f114_17 z n (nI (bN (idB W) k)) (nI k) M) (W 0 4) z (by omega) (by
        intro n k hk
        have e9 := h.t4 hk
        rw [bN_or1, f114_17]
        by_cases hc0 : nI (tY W 34 k) = nI 0
        · have e1 : idB W k = true := by simp [idB, hc0]
          simp (disch := omega) only [n_0, n_1, n_2, n_3, n_4, n_5, n_6, n_7, n_8, n_9, n_10, n_12, n_13, n_16, n_30, n_60, n_61, n_86, n_99, n_100, n_200, n_201, n_1023, n_65535, n_10000, n_1000000, ↓q_m1, ↓q_m2, ↓q_m3, ↓q_m4, ↓q_m5, ↓q_m6, ↓q_m7, ↓q_m8, ↓q_m1000, ↓q_m100000, q_add, q_addm, q_inB, q_cl, q_le, q_lt, q_eq, q_eqm, q_meq, q_mltT, q_ltm, q_lem, q_mleT, if_true, if_false, if_pos, if_neg, Nat.reduceAdd, Nat.reduceMul, Nat.add_zero, Nat.zero_add, Nat.one_mul, not_true_eq_false, not_false_eq_true, u_row, u_self, u_ne, cb_bi, cb_bv, cb_bl, e1, q_shl, q_orN, n_31, h.c.i5, e9, hc0]
        · have e1 : idB W k = false := by simp [idB, hc0]
          simp (disch := omega) only [n_0, n_1, n_2, n_3, n_4, n_5, n_6, n_7, n_8, n_9, n_10, n_12, n_13, n_16, n_30, n_60, n_61, n_86, n_99, n_100, n_200, n_201, n_1023, n_65535, n_10000, n_1000000, ↓q_m1, ↓q_m2, ↓q_m3, ↓q_m4, ↓q_m5, ↓q_m6, ↓q_m7, ↓q_m8, ↓q_m1000, ↓q_m100000, q_add, q_addm, q_inB, q_cl, q_le, q_lt, q_eq, q_eqm, q_meq, q_mltT, q_ltm, q_lem, q_mleT, if_true, if_false, if_pos, if_neg, Nat.reduceAdd, Nat.reduceMul, Nat.add_zero, Nat.zero_add, Nat.one_mul, not_true_eq_false, not_false_eq_true, u_row, u_self, u_ne, cb_bi, cb_bv, cb_bl, e1, q_orN, Bool.false_eq_true, Nat.or_zero, h.c.i5, e9, hc0])
      refine Eq.trans e0 ?_
      rw [f114_17]
      simp (disch := omega) only [n_0, n_1, n_2, n_3, n_4, n_5, n_6, n_7, n_8, n_9, n_10, n_12, n_13, n_16, n_30, n_60, n_61, n_86, n_99, n_100, n_200, n_201, n_1023, n_65535, n_10000, n_1000000, ↓q_m1, ↓q_m2, ↓q_m3, ↓q_m4, ↓q_m5, ↓q_m6, ↓q_m7, ↓q_m8, ↓q_m1000, ↓q_m100000, q_add, q_addm, q_inB, q_cl, q_le, q_lt, q_eq, q_eqm, q_meq, q_mltT, q_ltm, q_lem, q_mleT, if_true, if_false, if_pos, if_neg, Nat.reduceAdd, Nat.reduceMul, Nat.add_zero, Nat.zero_add, Nat.one_mul, not_true_eq_false, not_false_eq_true, u_row, u_self, u_ne, cb_bi, cb_bv, cb_bl, h.c.i5]
    · obtain ⟨M2, e, k, r, R⟩ := m_Ct hz h1 h7
      refine ⟨M2, ?_, k⟩
      simp only [f262, e, cb_bi, i0f, i1f, i0n, i1n]
      simp only [n_0]
      obtain ⟨n, e0⟩ := lf0 (fun n k => f262_14 z n (nI (bN (idB W) k)) (nI k) M2) (W 0 4) z (by omega) (by
        intro n k hk
        have e9 := R.2.2.2.1 k hk
        rw [bN_or1, f262_14]
        by_cases hc0 : nI (tY W 34 k) = nI 0
        · have e1 : idB W k = true := by simp [idB, hc0]
          simp (disch := omega) only [n_0, n_1, n_2, n_3, n_4, n_5, n_6, n_7, n_8, n_9, n_10, n_12, n_13, n_16, n_30, n_60, n_61, n_86, n_99, n_100, n_200, n_201, n_1023, n_65535, n_10000, n_1000000, ↓q_m1, ↓q_m2, ↓q_m3, ↓q_m4, ↓q_m5, ↓q_m6, ↓q_m7, ↓q_m8, ↓q_m1000, ↓q_m100000, q_add, q_addm, q_inB, q_cl, q_le, q_lt, q_eq, q_eqm, q_meq, q_mltT, q_ltm, q_lem, q_mleT, if_true, if_false, if_pos, if_neg, Nat.reduceAdd, Nat.reduceMul, Nat.add_zero, Nat.zero_add, Nat.one_mul, not_true_eq_false, not_false_eq_true, u_row, u_self, u_ne, cb_bi, cb_bv, cb_bl, e1, q_shl, q_orN, n_31, g178 r, cb_bi, e9, hc0]
        · have e1 : idB W k = false := by simp [idB, hc0]
          simp (disch := omega) only [n_0, n_1, n_2, n_3, n_4, n_5, n_6, n_7, n_8, n_9, n_10, n_12, n_13, n_16, n_30, n_60, n_61, n_86, n_99, n_100, n_200, n_201, n_1023, n_65535, n_10000, n_1000000, ↓q_m1, ↓q_m2, ↓q_m3, ↓q_m4, ↓q_m5, ↓q_m6, ↓q_m7, ↓q_m8, ↓q_m1000, ↓q_m100000, q_add, q_addm, q_inB, q_cl, q_le, q_lt, q_eq, q_eqm, q_meq, q_mltT, q_ltm, q_lem, q_mleT, if_true, if_false, if_pos, if_neg, Nat.reduceAdd, Nat.reduceMul, Nat.add_zero, Nat.zero_add, Nat.one_mul, not_true_eq_false, not_false_eq_true, u_row, u_self, u_ne, cb_bi, cb_bv, cb_bl, e1, q_orN, Bool.false_eq_true, Nat.or_zero, g178 r, cb_bi, e9, hc0])
      refine Eq.trans e0 ?_
      rw [f262_14]
      simp (disch := omega) only [n_0, n_1, n_2, n_3, n_4, n_5, n_6, n_7, n_8, n_9, n_10, n_12, n_13, n_16, n_30, n_60, n_61, n_86, n_99, n_100, n_200, n_201, n_1023, n_65535, n_10000, n_1000000, ↓q_m1, ↓q_m2, ↓q_m3, ↓q_m4, ↓q_m5, ↓q_m6, ↓q_m7, ↓q_m8, ↓q_m1000, ↓q_m100000, q_add, q_addm, q_inB, q_cl, q_le, q_lt, q_eq, q_eqm, q_meq, q_mltT, q_ltm, q_lem, q_mleT, if_true, if_false, if_pos, if_neg, Nat.reduceAdd, Nat.reduceMul, Nat.add_zero, Nat.zero_add, Nat.one_mul, not_true_eq_false, not_false_eq_true, u_row, u_self, u_ne, cb_bi, cb_bv, cb_bl, g178 r, cb_bi]
  · refine PR.s h (v := -2) (by simp only [f114, k7f h.c o0, cb_bi, i0f, i1f, i0n, i1n]) (fun M1 h1 => ?_)
    obtain ⟨M2, e, k⟩ := m_Cf hz h1 o0
    exact ⟨M2, by simp only [f262, e, cb_bi, i0f, i1f, i0n, i1n], k⟩
