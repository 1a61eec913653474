/-! ===== questions about what was told and about years ===== -/
theorem q_andB (p q : Nat → Bool) (n m : Nat) : nI (bN p n) &&& nI (bN q m) = nI (bN p n &&& bN q m) := q_andN _ _
theorem k170t {z : Nat} {M : aM} (n : Nat) {L : Int64} (hL : L = (nI n).toInt64) (hn : n ≤ 100000) {c : Nat} (hc : c ≤ n) : f170 z (nI c).toInt64 0 L M = some (some (.inl (nI 1)), M) := by
  rw [hL]
  exact g170t z M ((in_iff0 hn _).mpr ⟨c, hc, rfl⟩)
theorem k170f {z : Nat} {M : aM} (n : Nat) {L : Int64} (hL : L = (nI n).toInt64) (hn : n ≤ 100000) {x : Int32} (hx : ¬ okN (n + 1) x) : f170 z x.toInt64 0 L M = some (some (.inl (nI 0)), M) := by
  rw [hL]
  exact g170f z M (fun q => by obtain ⟨c, hc, e⟩ := (in_iff0 hn _).mp q; exact hx ⟨c, by omega, e⟩)
theorem L1 : (1 : Int64) = (nI 1).toInt64 := by decide
theorem L2 : (2 : Int64) = (nI 2).toInt64 := by decide
theorem L3 : (3 : Int64) = (nI 3).toInt64 := by decide
theorem ok3 {x : Int32} (h : ¬ okN 3 x) : ¬ x = 0 ∧ ¬ x = 1 ∧ ¬ x = 2 := ⟨fun e => h ⟨0, by omega, e⟩, fun e => h ⟨1, by omega, e⟩, fun e => h ⟨2, by omega, e⟩⟩
theorem P_thread {z : Nat} {M : aM} {W : cW} (h : RW M W) (x1 x2 : Int32) : PR (f85 z x1 x2 M) (f207 z x1 x2) := by
  have hN4 := h.n4
  by_cases o0 : okN (W 0 4) x1
  · obtain ⟨t, ht, rfl⟩ := o0
    by_cases o1 : okN 3 x2
    · obtain ⟨w, hw, rfl⟩ := o1
      have h3 : w = 0 ∨ w = 1 ∨ w = 2 := by omega
      rcases h3 with rfl | rfl | rfl
      · refine PR.s h (v := nI (W 1 t)) ?_ (fun M1 h1 => ⟨M1, ?_, kR.id0⟩)
        · simp only [f85, k9t h.c h.w ht, cb_bi, i1n]
          simp (disch := omega) only [n_0, n_1, n_2, n_3, n_4, n_5, n_6, n_7, n_8, n_9, n_10, n_12, n_13, n_16, n_30, n_60, n_61, n_86, n_99, n_100, n_200, n_201, n_1023, n_65535, n_10000, n_1000000, ↓q_m1, ↓q_m2, ↓q_m3, ↓q_m4, ↓q_m5, ↓q_m6, ↓q_m7, ↓q_m8, ↓q_m1000, ↓q_m100000, q_add, q_addm, q_inB, q_cl, q_le, q_lt, q_eq, q_eqm, q_meq, q_mltT, q_ltm, q_lem, q_mleT, if_true, if_false, if_pos, if_neg, Nat.reduceAdd, Nat.reduceMul, Nat.add_zero, Nat.zero_add, Nat.one_mul, not_true_eq_false, not_false_eq_true, u_row, u_self, u_ne, cb_bi, cb_bv, cb_bl, h.c.fr]
        · simp only [f207, k183t h1.m h1.w ht, k170t 2 L2 (by omega) (show 0 ≤ 2 by omega), cb_bi, i1f]
          simp (disch := omega) only [n_0, n_1, n_2, n_3, n_4, n_5, n_6, n_7, n_8, n_9, n_10, n_12, n_13, n_16, n_30, n_60, n_61, n_86, n_99, n_100, n_200, n_201, n_1023, n_65535, n_10000, n_1000000, ↓q_m1, ↓q_m2, ↓q_m3, ↓q_m4, ↓q_m5, ↓q_m6, ↓q_m7, ↓q_m8, ↓q_m1000, ↓q_m100000, q_add, q_addm, q_inB, q_cl, q_le, q_lt, q_eq, q_eqm, q_meq, q_mltT, q_ltm, q_lem, q_mleT, if_true, if_false, if_pos, if_neg, Nat.reduceAdd, Nat.reduceMul, Nat.add_zero, Nat.zero_add, Nat.one_mul, not_true_eq_false, not_false_eq_true, u_row, u_self, u_ne, cb_bi, cb_bv, cb_bl, q_mul, (h1.m.2.1 t ht).1]
      · refine PR.s h (v := hI (W 2 t)) ?_ (fun M1 h1 => ⟨M1, ?_, kR.id0⟩)
        · simp only [f85, k9t h.c h.w ht, cb_bi, i1n]
          have hto := h.c.to ht
          by_cases h8 : W 2 t = 8
          · rw [h8, hI_8] at hto
            simp (disch := omega) only [n_0, n_1, n_2, n_3, n_4, n_5, n_6, n_7, n_8, n_9, n_10, n_12, n_13, n_16, n_30, n_60, n_61, n_86, n_99, n_100, n_200, n_201, n_1023, n_65535, n_10000, n_1000000, ↓q_m1, ↓q_m2, ↓q_m3, ↓q_m4, ↓q_m5, ↓q_m6, ↓q_m7, ↓q_m8, ↓q_m1000, ↓q_m100000, q_add, q_addm, q_inB, q_cl, q_le, q_lt, q_eq, q_eqm, q_meq, q_mltT, q_ltm, q_lem, q_mleT, if_true, if_false, if_pos, if_neg, Nat.reduceAdd, Nat.reduceMul, Nat.add_zero, Nat.zero_add, Nat.one_mul, not_true_eq_false, not_false_eq_true, u_row, u_self, u_ne, cb_bi, cb_bv, cb_bl, hto, h8, hI_8]
          · have hw := (h.w.2.2.2.2.2.2.2.2.1 _ ht)
            have := h.n3
            rw [hI_n h8] at hto
            simp (disch := omega) only [n_0, n_1, n_2, n_3, n_4, n_5, n_6, n_7, n_8, n_9, n_10, n_12, n_13, n_16, n_30, n_60, n_61, n_86, n_99, n_100, n_200, n_201, n_1023, n_65535, n_10000, n_1000000, ↓q_m1, ↓q_m2, ↓q_m3, ↓q_m4, ↓q_m5, ↓q_m6, ↓q_m7, ↓q_m8, ↓q_m1000, ↓q_m100000, q_add, q_addm, q_inB, q_cl, q_le, q_lt, q_eq, q_eqm, q_meq, q_mltT, q_ltm, q_lem, q_mleT, if_true, if_false, if_pos, if_neg, Nat.reduceAdd, Nat.reduceMul, Nat.add_zero, Nat.zero_add, Nat.one_mul, not_true_eq_false, not_false_eq_true, u_row, u_self, u_ne, cb_bi, cb_bv, cb_bl, hto, hI_n h8]
        · simp only [f207, k183t h1.m h1.w ht, k170t 2 L2 (by omega) (show 1 ≤ 2 by omega), cb_bi, i1f]
          simp (disch := omega) only [n_0, n_1, n_2, n_3, n_4, n_5, n_6, n_7, n_8, n_9, n_10, n_12, n_13, n_16, n_30, n_60, n_61, n_86, n_99, n_100, n_200, n_201, n_1023, n_65535, n_10000, n_1000000, ↓q_m1, ↓q_m2, ↓q_m3, ↓q_m4, ↓q_m5, ↓q_m6, ↓q_m7, ↓q_m8, ↓q_m1000, ↓q_m100000, q_add, q_addm, q_inB, q_cl, q_le, q_lt, q_eq, q_eqm, q_meq, q_mltT, q_ltm, q_lem, q_mleT, if_true, if_false, if_pos, if_neg, Nat.reduceAdd, Nat.reduceMul, Nat.add_zero, Nat.zero_add, Nat.one_mul, not_true_eq_false, not_false_eq_true, u_row, u_self, u_ne, cb_bi, cb_bv, cb_bl, q_mul, (h1.m.2.1 t ht).2.1]
      · refine PR.s h (v := nI (W 3 t)) ?_ (fun M1 h1 => ⟨M1, ?_, kR.id0⟩)
        · simp only [f85, k9t h.c h.w ht, cb_bi, i1n]
          simp (disch := omega) only [n_0, n_1, n_2, n_3, n_4, n_5, n_6, n_7, n_8, n_9, n_10, n_12, n_13, n_16, n_30, n_60, n_61, n_86, n_99, n_100, n_200, n_201, n_1023, n_65535, n_10000, n_1000000, ↓q_m1, ↓q_m2, ↓q_m3, ↓q_m4, ↓q_m5, ↓q_m6, ↓q_m7, ↓q_m8, ↓q_m1000, ↓q_m100000, q_add, q_addm, q_inB, q_cl, q_le, q_lt, q_eq, q_eqm, q_meq, q_mltT, q_ltm, q_lem, q_mleT, if_true, if_false, if_pos, if_neg, Nat.reduceAdd, Nat.reduceMul, Nat.add_zero, Nat.zero_add, Nat.one_mul, not_true_eq_false, not_false_eq_true, u_row, u_self, u_ne, cb_bi, cb_bv, cb_bl, h.c.ho]
        · simp only [f207, k183t h1.m h1.w ht, k170t 2 L2 (by omega) (show 2 ≤ 2 by omega), cb_bi, i1f]
          simp (disch := omega) only [n_0, n_1, n_2, n_3, n_4, n_5, n_6, n_7, n_8, n_9, n_10, n_12, n_13, n_16, n_30, n_60, n_61, n_86, n_99, n_100, n_200, n_201, n_1023, n_65535, n_10000, n_1000000, ↓q_m1, ↓q_m2, ↓q_m3, ↓q_m4, ↓q_m5, ↓q_m6, ↓q_m7, ↓q_m8, ↓q_m1000, ↓q_m100000, q_add, q_addm, q_inB, q_cl, q_le, q_lt, q_eq, q_eqm, q_meq, q_mltT, q_ltm, q_lem, q_mleT, if_true, if_false, if_pos, if_neg, Nat.reduceAdd, Nat.reduceMul, Nat.add_zero, Nat.zero_add, Nat.one_mul, not_true_eq_false, not_false_eq_true, u_row, u_self, u_ne, cb_bi, cb_bv, cb_bl, q_mul, (h1.m.2.1 t ht).2.2]
    · refine PR.s h (v := -2) ?_ (fun M1 h1 => ⟨M1, ?_, kR.id0⟩)
      · obtain ⟨q1, q2, q3⟩ := ok3 o1
        simp only [f85, k9t h.c h.w ht, cb_bi, i1n, if_neg q1, if_neg q2, if_neg q3]
      · simp only [f207, k183t h1.m h1.w ht, k170f 2 L2 (by omega) o1, cb_bi, i1f, i0f]
  · refine PR.s h (v := -2) ?_ (fun M1 h1 => ⟨M1, ?_, kR.id0⟩)
    · simp only [f85, k9f h.c h.w o0, cb_bi, i0n]
    · simp only [f207, k183f h1.m h1.w o0, cb_bi, i0f]
theorem P_quarrel {z : Nat} {M : aM} {W : cW} (h : RW M W) (x1 x2 : Int32) : PR (f86 z x1 x2 M) (f208 z x1 x2) := by
  have hN5 := h.n5
  by_cases o0 : okN (W 0 5) x1
  · obtain ⟨t, ht, rfl⟩ := o0
    by_cases o1 : okN 3 x2
    · obtain ⟨w, hw, rfl⟩ := o1
      have h3 : w = 0 ∨ w = 1 ∨ w = 2 := by omega
      rcases h3 with rfl | rfl | rfl
      · refine PR.s h (v := nI (W 4 t)) ?_ (fun M1 h1 => ⟨M1, ?_, kR.id0⟩)
        · simp only [f86, k10t h.c h.w ht, cb_bi, i1n]
          simp (disch := omega) only [n_0, n_1, n_2, n_3, n_4, n_5, n_6, n_7, n_8, n_9, n_10, n_12, n_13, n_16, n_30, n_60, n_61, n_86, n_99, n_100, n_200, n_201, n_1023, n_65535, n_10000, n_1000000, ↓q_m1, ↓q_m2, ↓q_m3, ↓q_m4, ↓q_m5, ↓q_m6, ↓q_m7, ↓q_m8, ↓q_m1000, ↓q_m100000, q_add, q_addm, q_inB, q_cl, q_le, q_lt, q_eq, q_eqm, q_meq, q_mltT, q_ltm, q_lem, q_mleT, if_true, if_false, if_pos, if_neg, Nat.reduceAdd, Nat.reduceMul, Nat.add_zero, Nat.zero_add, Nat.one_mul, not_true_eq_false, not_false_eq_true, u_row, u_self, u_ne, cb_bi, cb_bv, cb_bl, h.c.qc]
        · simp only [f208, k184t h1.m h1.w ht, k170t 2 L2 (by omega) (show 0 ≤ 2 by omega), cb_bi, i1f, (g187 h1.m h1.w ht).1]
      · refine PR.s h (v := nI (W 5 t)) ?_ (fun M1 h1 => ⟨M1, ?_, kR.id0⟩)
        · simp only [f86, k10t h.c h.w ht, cb_bi, i1n]
          simp (disch := omega) only [n_0, n_1, n_2, n_3, n_4, n_5, n_6, n_7, n_8, n_9, n_10, n_12, n_13, n_16, n_30, n_60, n_61, n_86, n_99, n_100, n_200, n_201, n_1023, n_65535, n_10000, n_1000000, ↓q_m1, ↓q_m2, ↓q_m3, ↓q_m4, ↓q_m5, ↓q_m6, ↓q_m7, ↓q_m8, ↓q_m1000, ↓q_m100000, q_add, q_addm, q_inB, q_cl, q_le, q_lt, q_eq, q_eqm, q_meq, q_mltT, q_ltm, q_lem, q_mleT, if_true, if_false, if_pos, if_neg, Nat.reduceAdd, Nat.reduceMul, Nat.add_zero, Nat.zero_add, Nat.one_mul, not_true_eq_false, not_false_eq_true, u_row, u_self, u_ne, cb_bi, cb_bv, cb_bl, h.c.qp]
        · simp only [f208, k184t h1.m h1.w ht, k170t 2 L2 (by omega) (show 1 ≤ 2 by omega), cb_bi, i1f, (g187 h1.m h1.w ht).2.1]
      · refine PR.s h (v := nI (W 6 t)) ?_ (fun M1 h1 => ⟨M1, ?_, kR.id0⟩)
        · simp only [f86, k10t h.c h.w ht, cb_bi, i1n]
          simp (disch := omega) only [n_0, n_1, n_2, n_3, n_4, n_5, n_6, n_7, n_8, n_9, n_10, n_12, n_13, n_16, n_30, n_60, n_61, n_86, n_99, n_100, n_200, n_201, n_1023, n_65535, n_10000, n_1000000, ↓q_m1, ↓q_m2, ↓q_m3, ↓q_m4, ↓q_m5, ↓q_m6, ↓q_m7, ↓q_m8, ↓q_m1000, ↓q_m100000, q_add, q_addm, q_inB, q_cl, q_le, q_lt, q_eq, q_eqm, q_meq, q_mltT, q_ltm, q_lem, q_mleT, if_true, if_false, if_pos, if_neg, Nat.reduceAdd, Nat.reduceMul, Nat.add_zero, Nat.zero_add, Nat.one_mul, not_true_eq_false, not_false_eq_true, u_row, u_self, u_ne, cb_bi, cb_bv, cb_bl, h.c.qy]
        · simp only [f208, k184t h1.m h1.w ht, k170t 2 L2 (by omega) (show 2 ≤ 2 by omega), cb_bi, i1f, (g187 h1.m h1.w ht).2.2]
    · refine PR.s h (v := -2) ?_ (fun M1 h1 => ⟨M1, ?_, kR.id0⟩)
      · obtain ⟨q1, q2, q3⟩ := ok3 o1
        simp only [f86, k10t h.c h.w ht, cb_bi, i1n, if_neg q1, if_neg q2, if_neg q3]
      · simp only [f208, k184t h1.m h1.w ht, k170f 2 L2 (by omega) o1, cb_bi, i1f, i0f]
  · refine PR.s h (v := -2) ?_ (fun M1 h1 => ⟨M1, ?_, kR.id0⟩)
    · simp only [f86, k10f h.c h.w o0, cb_bi, i0n]
    · simp only [f208, k184f h1.m h1.w o0, cb_bi, i0f]
def frB (W : cW) (c : Nat) : Nat → Bool := fun t => decide (W 1 t = c)
theorem g209 {z : Nat} (hz : 2000 ≤ z) {M : aM} {W : cW} (h : rM (M.1 206) W) (hW : wf W) {c : Nat} (hc : c < 8) : f209 z (nI c) M = some (some (.inl (nI (bN (frB W c) (W 0 4)))), M) := by
  have hT : W 0 4 ≤ 16 := hW.2.2.2.2.1
  have hC8 : W 0 3 ≤ 8 := hW.2.2.2.1
  unfold f209
  simp only [n_0]
  obtain ⟨n, e0⟩ := lf0 (fun n k => f209_4 z n (nI c) (nI (bN (frB W c) k)) (nI k) M) (W 0 4) z (by omega) (by
    intro n k hk
    have hw := (hW.2.2.2.2.2.2.2.2.1 k hk).1
    have e9 := g185 (z := z) h hW hk
    rw [bN_or1, f209_4]
    by_cases hc0 : W 1 k = c
    · have e1 : frB W c k = true := by simp [frB, hc0]
      simp (disch := omega) only [n_0, n_1, n_2, n_3, n_4, n_5, n_6, n_7, n_8, n_9, n_10, n_12, n_13, n_16, n_30, n_60, n_61, n_86, n_99, n_100, n_200, n_201, n_1023, n_65535, n_10000, n_1000000, ↓q_m1, ↓q_m2, ↓q_m3, ↓q_m4, ↓q_m5, ↓q_m6, ↓q_m7, ↓q_m8, ↓q_m1000, ↓q_m100000, q_add, q_addm, q_inB, q_cl, q_le, q_lt, q_eq, q_eqm, q_meq, q_mltT, q_ltm, q_lem, q_mleT, if_true, if_false, if_pos, if_neg, Nat.reduceAdd, Nat.reduceMul, Nat.add_zero, Nat.zero_add, Nat.one_mul, not_true_eq_false, not_false_eq_true, u_row, u_self, u_ne, cb_bi, cb_bv, cb_bl, e1, q_shl, q_orN, n_31, g178 h, cb_bi, e9]
    · have e1 : frB W c k = false := by simp [frB, hc0]
      simp (disch := omega) only [n_0, n_1, n_2, n_3, n_4, n_5, n_6, n_7, n_8, n_9, n_10, n_12, n_13, n_16, n_30, n_60, n_61, n_86, n_99, n_100, n_200, n_201, n_1023, n_65535, n_10000, n_1000000, ↓q_m1, ↓q_m2, ↓q_m3, ↓q_m4, ↓q_m5, ↓q_m6, ↓q_m7, ↓q_m8, ↓q_m1000, ↓q_m100000, q_add, q_addm, q_inB, q_cl, q_le, q_lt, q_eq, q_eqm, q_meq, q_mltT, q_ltm, q_lem, q_mleT, if_true, if_false, if_pos, if_neg, Nat.reduceAdd, Nat.reduceMul, Nat.add_zero, Nat.zero_add, Nat.one_mul, not_true_eq_false, not_false_eq_true, u_row, u_self, u_ne, cb_bi, cb_bv, cb_bl, e1, q_orN, Bool.false_eq_true, Nat.or_zero, g178 h, cb_bi, e9])
  refine Eq.trans e0 ?_
  rw [f209_4]
  simp (disch := omega) only [n_0, n_1, n_2, n_3, n_4, n_5, n_6, n_7, n_8, n_9, n_10, n_12, n_13, n_16, n_30, n_60, n_61, n_86, n_99, n_100, n_200, n_201, n_1023, n_65535, n_10000, n_1000000, ↓q_m1, ↓q_m2, ↓q_m3, ↓q_m4, ↓q_m5, ↓q_m6, ↓q_m7, ↓q_m8, ↓q_m1000, ↓q_m100000, q_add, q_addm, q_inB, q_cl, q_le, q_lt, q_eq, q_eqm, q_meq, q_mltT, q_ltm, q_lem, q_mleT, if_true, if_false, if_pos, if_neg, Nat.reduceAdd, Nat.reduceMul, Nat.add_zero, Nat.zero_add, Nat.one_mul, not_true_eq_false, not_false_eq_true, u_row, u_self, u_ne, cb_bi, cb_bv, cb_bl, g178 h, cb_bi]
theorem P_threads {z : Nat} (hz : 2000 ≤ z) {M : aM} {W : cW} (h : RW M W) (x1 : Int32) : PR (f87 z x1 M) (f210 z x1) := by
  by_cases o0 : okN (W 0 3) x1
  · obtain ⟨c, hc, rfl⟩ := o0
    have hN3 := h.n3
    have hN4 := h.n4
    have hN5 := h.n5
    have hN0 := h.n0
    refine PR.q h (v := nI (bN (frB W c) (W 0 4))) (M1 := M) ?_ kR.id0 (fun M1 h1 => ?_)
    · simp only [f87, k8t h.c h.w hc, cb_bi, i0f, i1f, i0n, i1n]
      simp only [n_0]
      obtain ⟨n, e0⟩ := lf0 (fun n k => f87_18 z n (nI c) (nI (bN (frB W c) k)) (nI k) M) (W 0 4) z (by omega) (by
        intro n k hk
        have hw := (h.w.2.2.2.2.2.2.2.2.1 k hk).1
        have e9 := h.c.fr hk
        rw [bN_or1, f87_18]
        by_cases hc0 : W 1 k = c
        · have e1 : frB W c k = true := by simp [frB, hc0]
          simp (disch := omega) only [n_0, n_1, n_2, n_3, n_4, n_5, n_6, n_7, n_8, n_9, n_10, n_12, n_13, n_16, n_30, n_60, n_61, n_86, n_99, n_100, n_200, n_201, n_1023, n_65535, n_10000, n_1000000, ↓q_m1, ↓q_m2, ↓q_m3, ↓q_m4, ↓q_m5, ↓q_m6, ↓q_m7, ↓q_m8, ↓q_m1000, ↓q_m100000, q_add, q_addm, q_inB, q_cl, q_le, q_lt, q_eq, q_eqm, q_meq, q_mltT, q_ltm, q_lem, q_mleT, if_true, if_false, if_pos, if_neg, Nat.reduceAdd, Nat.reduceMul, Nat.add_zero, Nat.zero_add, Nat.one_mul, not_true_eq_false, not_false_eq_true, u_row, u_self, u_ne, cb_bi, cb_bv, cb_bl, e1, q_shl, q_orN, n_31, h.c.i5, e9]
        · have e1 : frB W c k = false := by simp [frB, hc0]
          simp (disch := omega) only [n_0, n_1, n_2, n_3, n_4, n_5, n_6, n_7, n_8, n_9, n_10, n_12, n_13, n_16, n_30, n_60, n_61, n_86, n_99, n_100, n_200, n_201, n_1023, n_65535, n_10000, n_1000000, ↓q_m1, ↓q_m2, ↓q_m3, ↓q_m4, ↓q_m5, ↓q_m6, ↓q_m7, ↓q_m8, ↓q_m1000, ↓q_m100000, q_add, q_addm, q_inB, q_cl, q_le, q_lt, q_eq, q_eqm, q_meq, q_mltT, q_ltm, q_lem, q_mleT, if_true, if_false, if_pos, if_neg, Nat.reduceAdd, Nat.reduceMul, Nat.add_zero, Nat.zero_add, Nat.one_mul, not_true_eq_false, not_false_eq_true, u_row, u_self, u_ne, cb_bi, cb_bv, cb_bl, e1, q_orN, Bool.false_eq_true, Nat.or_zero, h.c.i5, e9])
      refine Eq.trans e0 ?_
      rw [f87_18]
      simp (disch := omega) only [n_0, n_1, n_2, n_3, n_4, n_5, n_6, n_7, n_8, n_9, n_10, n_12, n_13, n_16, n_30, n_60, n_61, n_86, n_99, n_100, n_200, n_201, n_1023, n_65535, n_10000, n_1000000, ↓q_m1, ↓q_m2, ↓q_m3, ↓q_m4, ↓q_m5, ↓q_m6, ↓q_m7, ↓q_m8, ↓q_m1000, ↓q_m100000, q_add, q_addm, q_inB, q_cl, q_le, q_lt, q_eq, q_eqm, q_meq, q_mltT, q_ltm, q_lem, q_mleT, if_true, if_false, if_pos, if_neg, Nat.reduceAdd, Nat.reduceMul, Nat.add_zero, Nat.zero_add, Nat.one_mul, not_true_eq_false, not_false_eq_true, u_row, u_self, u_ne, cb_bi, cb_bv, cb_bl, h.c.i5]
    · have r := h1.m
      refine ⟨M1, ?_, kR.id0⟩
      simp only [f210, k182t r h1.w hc, cb_bi, i0f, i1f, i0n, i1n]
      rw [g209 hz r h1.w (by omega), cb_bi]
  · refine PR.s h (v := -2) (by simp only [f87, k8f h.c h.w o0, cb_bi, i0f, i1f, i0n, i1n]) (fun M1 h1 => ?_)
    have r := h1.m
    exact ⟨M1, by simp only [f210, k182f r h1.w o0, cb_bi, i0f, i1f, i0n, i1n], kR.id0⟩
theorem P_strength {z : Nat} (hz : 2000 ≤ z) {M : aM} {W : cW} (h : RW M W) (x1 x2 : Int32) : PR (f88 z x1 x2 M) (f234 z x1 x2) := by
  by_cases o0 : okN (W 0 4) x1
  · obtain ⟨t, ht, rfl⟩ := o0
    by_cases o1 : okY W x2
    · obtain ⟨h7, y, hy, rfl⟩ := o1
      have hy2 : y ≤ W 0 0 := Nat.le_of_lt_succ hy
      have hN3 := h.n3
      have hN4 := h.n4
      have hN5 := h.n5
      have hN0 := h.n0
      refine PR.q h (v := nI (tY W y t)) (M1 := M) ?_ kR.id0 (fun M1 h1 => ?_)
      · simp only [f88, k9t h.c h.w ht, k11t h.c h.w h7 (Nat.le_of_lt_succ hy), cb_bi, i0f, i1f, i0n, i1n]
        simp (disch := omega) only [n_0, n_1, n_2, n_3, n_4, n_5, n_6, n_7, n_8, n_9, n_10, n_12, n_13, n_16, n_30, n_60, n_61, n_86, n_99, n_100, n_200, n_201, n_1023, n_65535, n_10000, n_1000000, ↓q_m1, ↓q_m2, ↓q_m3, ↓q_m4, ↓q_m5, ↓q_m6, ↓q_m7, ↓q_m8, ↓q_m1000, ↓q_m100000, q_add, q_addm, q_inB, q_cl, q_le, q_lt, q_eq, q_eqm, q_meq, q_mltT, q_ltm, q_lem, q_mleT, if_true, if_false, if_pos, if_neg, Nat.reduceAdd, Nat.reduceMul, Nat.add_zero, Nat.zero_add, Nat.one_mul, not_true_eq_false, not_false_eq_true, u_row, u_self, u_ne, cb_bi, cb_bv, cb_bl, h.row hy2 ht]
      · obtain ⟨M2, e, k, r, R⟩ := m_Yt hz h1 h7 (Nat.le_of_lt_succ hy)
        refine ⟨M2, ?_, k⟩
        simp only [f234, e, k183t r h1.w ht, cb_bi, i0f, i1f, i0n, i1n]
        rw [g227 h1.w R (by omega) ht (by omega), cb_bi]
    · refine PR.s h (v := -2) (by simp only [f88, k9t h.c h.w ht, k11f h.c h.w o1, cb_bi, i0f, i1f, i0n, i1n]) (fun M1 h1 => ?_)
      obtain ⟨M2, e, k⟩ := m_Yf hz h1 o1
      exact ⟨M2, by simp only [f234, e, cb_bi, i0f, i1f, i0n, i1n], k⟩
  · by_cases o1 : okY W x2
    · obtain ⟨h7, y, hy, rfl⟩ := o1
      refine PR.s h (v := -2) (by simp only [f88, k9f h.c h.w o0, k11t h.c h.w h7 (Nat.le_of_lt_succ hy), cb_bi, i0f, i1f, i0n, i1n]) (fun M1 h1 => ?_)
      obtain ⟨M2, e, k, r, R⟩ := m_Yt hz h1 h7 (Nat.le_of_lt_succ hy)
      exact ⟨M2, by simp only [f234, e, k183f r h1.w o0, cb_bi, i0f, i1f, i0n, i1n], k⟩
    · refine PR.s h (v := -2) (by simp only [f88, k9f h.c h.w o0, k11f h.c h.w o1, cb_bi, i0f, i1f, i0n, i1n]) (fun M1 h1 => ?_)
      obtain ⟨M2, e, k⟩ := m_Yf hz h1 o1
      exact ⟨M2, by simp only [f234, e, cb_bi, i0f, i1f, i0n, i1n], k⟩
theorem P_torn {z : Nat} (hz : 2000 ≤ z) {M : aM} {W : cW} (h : RW M W) (x1 : Int32) : PR (f89 z x1 M) (f235 z x1) := by
  by_cases o0 : okY W x1
  · obtain ⟨h7, y, hy, rfl⟩ := o0
    have hy2 : y ≤ W 0 0 := Nat.le_of_lt_succ hy
    have hN3 := h.n3
    have hN4 := h.n4
    have hN5 := h.n5
    have hN0 := h.n0
    refine PR.q h (v := nI (bN (tn (tY W y)) (W 0 4))) (M1 := M) ?_ kR.id0 (fun M1 h1 => ?_)
    · simp only [f89, k11t h.c h.w h7 (Nat.le_of_lt_succ hy), cb_bi, i0f, i1f, i0n, i1n]
      simp only [n_0]
      obtain ⟨n, e0⟩ := lf0 (fun n k => f89_18 z n (nI y) (nI (bN (tn (tY W y)) k)) (nI k) M) (W 0 4) z (by omega) (by
        intro n k hk
        have hb := h.rb hy2 k
        have e9 := h.row hy2 hk
        rw [bN_or1, f89_18]
        by_cases hc0 : tY W y k = 0
        · have e1 : tn (tY W y) k = true := by simp [tn, hc0]
          simp (disch := omega) only [n_0, n_1, n_2, n_3, n_4, n_5, n_6, n_7, n_8, n_9, n_10, n_12, n_13, n_16, n_30, n_60, n_61, n_86, n_99, n_100, n_200, n_201, n_1023, n_65535, n_10000, n_1000000, ↓q_m1, ↓q_m2, ↓q_m3, ↓q_m4, ↓q_m5, ↓q_m6, ↓q_m7, ↓q_m8, ↓q_m1000, ↓q_m100000, q_add, q_addm, q_inB, q_cl, q_le, q_lt, q_eq, q_eqm, q_meq, q_mltT, q_ltm, q_lem, q_mleT, if_true, if_false, if_pos, if_neg, Nat.reduceAdd, Nat.reduceMul, Nat.add_zero, Nat.zero_add, Nat.one_mul, not_true_eq_false, not_false_eq_true, u_row, u_self, u_ne, cb_bi, cb_bv, cb_bl, e1, q_shl, q_orN, n_31, h.c.i5, e9]
        · have e1 : tn (tY W y) k = false := by simp [tn, hc0]
          simp (disch := omega) only [n_0, n_1, n_2, n_3, n_4, n_5, n_6, n_7, n_8, n_9, n_10, n_12, n_13, n_16, n_30, n_60, n_61, n_86, n_99, n_100, n_200, n_201, n_1023, n_65535, n_10000, n_1000000, ↓q_m1, ↓q_m2, ↓q_m3, ↓q_m4, ↓q_m5, ↓q_m6, ↓q_m7, ↓q_m8, ↓q_m1000, ↓q_m100000, q_add, q_addm, q_inB, q_cl, q_le, q_lt, q_eq, q_eqm, q_meq, q_mltT, q_ltm, q_lem, q_mleT, if_true, if_false, if_pos, if_neg, Nat.reduceAdd, Nat.reduceMul, Nat.add_zero, Nat.zero_add, Nat.one_mul, not_true_eq_false, not_false_eq_true, u_row, u_self, u_ne, cb_bi, cb_bv, cb_bl, e1, q_orN, Bool.false_eq_true, Nat.or_zero, h.c.i5, e9])
      refine Eq.trans e0 ?_
      rw [f89_18]
      simp (disch := omega) only [n_0, n_1, n_2, n_3, n_4, n_5, n_6, n_7, n_8, n_9, n_10, n_12, n_13, n_16, n_30, n_60, n_61, n_86, n_99, n_100, n_200, n_201, n_1023, n_65535, n_10000, n_1000000, ↓q_m1, ↓q_m2, ↓q_m3, ↓q_m4, ↓q_m5, ↓q_m6, ↓q_m7, ↓q_m8, ↓q_m1000, ↓q_m100000, q_add, q_addm, q_inB, q_cl, q_le, q_lt, q_eq, q_eqm, q_meq, q_mltT, q_ltm, q_lem, q_mleT, if_true, if_false, if_pos, if_neg, Nat.reduceAdd, Nat.reduceMul, Nat.add_zero, Nat.zero_add, Nat.one_mul, not_true_eq_false, not_false_eq_true, u_row, u_self, u_ne, cb_bi, cb_bv, cb_bl, h.c.i5]
    · obtain ⟨M2, e, k, r, R⟩ := m_Yt hz h1 h7 (Nat.le_of_lt_succ hy)
      refine ⟨M2, ?_, k⟩
      simp only [f235, e, cb_bi, i0f, i1f, i0n, i1n]
      rw [g228 hz r h1.w R (by omega) (by omega) (h1.rb hy2), cb_bi]
  · refine PR.s h (v := -2) (by simp only [f89, k11f h.c h.w o0, cb_bi, i0f, i1f, i0n, i1n]) (fun M1 h1 => ?_)
    obtain ⟨M2, e, k⟩ := m_Yf hz h1 o0
    exact ⟨M2, by simp only [f235, e, cb_bi, i0f, i1f, i0n, i1n], k⟩
def trY (W : cW) (t : Nat) : Nat → Bool := fun y => decide (tY W y t = 0)
theorem P_tears {z : Nat} (hz : 2000 ≤ z) {M : aM} {W : cW} (h : RW M W) (x1 : Int32) : PR (f90 z x1 M) (f236 z x1) := by
  by_cases o0 : okN (W 0 4) x1
  · obtain ⟨t, ht, rfl⟩ := o0
    have hN3 := h.n3
    have hN4 := h.n4
    have hN5 := h.n5
    have hN0 := h.n0
    refine PR.q h (v := oI (fst (trY W t) (W 0 0 + 1))) (M1 := M) ?_ kR.id0 (fun M1 h1 => ?_)
    · simp only [f90, k9t h.c h.w ht, cb_bi, i0f, i1f, i0n, i1n]
      simp only [n_0]
      refine Eq.trans (le0 (fun n k => f90_16 z n (nI t) (nI k) M) (W 0 0 + 1) z (trY W t) (fun k => some (some (.inl (nI k)), M)) (some (some (.inl mI), M)) (by omega) (by
        intro n k hk
        have hb := h.rb (Nat.le_of_lt_succ hk) t
        have e9 := h.row (Nat.le_of_lt_succ hk) ht
        rw [f90_16]
        by_cases hc0 : tY W k t = 0
        · have e1 : (trY W t) k = true := by simp [trY, hc0]
          simp (disch := omega) only [n_0, n_1, n_2, n_3, n_4, n_5, n_6, n_7, n_8, n_9, n_10, n_12, n_13, n_16, n_30, n_60, n_61, n_86, n_99, n_100, n_200, n_201, n_1023, n_65535, n_10000, n_1000000, ↓q_m1, ↓q_m2, ↓q_m3, ↓q_m4, ↓q_m5, ↓q_m6, ↓q_m7, ↓q_m8, ↓q_m1000, ↓q_m100000, q_add, q_addm, q_inB, q_cl, q_le, q_lt, q_eq, q_eqm, q_meq, q_mltT, q_ltm, q_lem, q_mleT, if_true, if_false, if_pos, if_neg, Nat.reduceAdd, Nat.reduceMul, Nat.add_zero, Nat.zero_add, Nat.one_mul, not_true_eq_false, not_false_eq_true, u_row, u_self, u_ne, cb_bi, cb_bv, cb_bl, e1, h.c.i1, e9]
        · have e1 : (trY W t) k = false := by simp [trY, hc0]
          simp (disch := omega) only [n_0, n_1, n_2, n_3, n_4, n_5, n_6, n_7, n_8, n_9, n_10, n_12, n_13, n_16, n_30, n_60, n_61, n_86, n_99, n_100, n_200, n_201, n_1023, n_65535, n_10000, n_1000000, ↓q_m1, ↓q_m2, ↓q_m3, ↓q_m4, ↓q_m5, ↓q_m6, ↓q_m7, ↓q_m8, ↓q_m1000, ↓q_m100000, q_add, q_addm, q_inB, q_cl, q_le, q_lt, q_eq, q_eqm, q_meq, q_mltT, q_ltm, q_lem, q_mleT, if_true, if_false, if_pos, if_neg, Nat.reduceAdd, Nat.reduceMul, Nat.add_zero, Nat.zero_add, Nat.one_mul, not_true_eq_false, not_false_eq_true, u_row, u_self, u_ne, cb_bi, cb_bv, cb_bl, e1, Bool.false_eq_true, h.c.i1, e9]) (by
        intro n
        rw [f90_16]
        simp (disch := omega) only [n_0, n_1, n_2, n_3, n_4, n_5, n_6, n_7, n_8, n_9, n_10, n_12, n_13, n_16, n_30, n_60, n_61, n_86, n_99, n_100, n_200, n_201, n_1023, n_65535, n_10000, n_1000000, ↓q_m1, ↓q_m2, ↓q_m3, ↓q_m4, ↓q_m5, ↓q_m6, ↓q_m7, ↓q_m8, ↓q_m1000, ↓q_m100000, q_add, q_addm, q_inB, q_cl, q_le, q_lt, q_eq, q_eqm, q_meq, q_mltT, q_ltm, q_lem, q_mleT, if_true, if_false, if_pos, if_neg, Nat.reduceAdd, Nat.reduceMul, Nat.add_zero, Nat.zero_add, Nat.one_mul, not_true_eq_false, not_false_eq_true, u_row, u_self, u_ne, cb_bi, cb_bv, cb_bl, h.c.i1])) ?_
      cases fst (trY W t) (W 0 0 + 1) <;> rfl
    · obtain ⟨M2, e, k, r, R⟩ := m_C hz h1
      refine ⟨M2, ?_, k⟩
      simp only [f236, e, k183t r h1.w ht, cb_bi, i0f, i1f, i0n, i1n]
      simp only [n_0]
      refine Eq.trans (le0 (fun n k => f236_19 z n (nI t) (nI k) M2) (W 0 0 + 1) z (trY W t) (fun k => some (some (.inl (nI k)), M2)) (some (some (.inl mI), M2)) (by omega) (by
        intro n k hk
        have hb := h1.rb (Nat.le_of_lt_succ hk) t
        have e9 := g227 (z := z) h1.w R (by omega) ht hk
        rw [f236_19]
        by_cases hc0 : tY W k t = 0
        · have e1 : (trY W t) k = true := by simp [trY, hc0]
          simp (disch := omega) only [n_0, n_1, n_2, n_3, n_4, n_5, n_6, n_7, n_8, n_9, n_10, n_12, n_13, n_16, n_30, n_60, n_61, n_86, n_99, n_100, n_200, n_201, n_1023, n_65535, n_10000, n_1000000, ↓q_m1, ↓q_m2, ↓q_m3, ↓q_m4, ↓q_m5, ↓q_m6, ↓q_m7, ↓q_m8, ↓q_m1000, ↓q_m100000, q_add, q_addm, q_inB, q_cl, q_le, q_lt, q_eq, q_eqm, q_meq, q_mltT, q_ltm, q_lem, q_mleT, if_true, if_false, if_pos, if_neg, Nat.reduceAdd, Nat.reduceMul, Nat.add_zero, Nat.zero_add, Nat.one_mul, not_true_eq_false, not_false_eq_true, u_row, u_self, u_ne, cb_bi, cb_bv, cb_bl, e1, g176 r, cb_bi, e9]
        · have e1 : (trY W t) k = false := by simp [trY, hc0]
          simp (disch := omega) only [n_0, n_1, n_2, n_3, n_4, n_5, n_6, n_7, n_8, n_9, n_10, n_12, n_13, n_16, n_30, n_60, n_61, n_86, n_99, n_100, n_200, n_201, n_1023, n_65535, n_10000, n_1000000, ↓q_m1, ↓q_m2, ↓q_m3, ↓q_m4, ↓q_m5, ↓q_m6, ↓q_m7, ↓q_m8, ↓q_m1000, ↓q_m100000, q_add, q_addm, q_inB, q_cl, q_le, q_lt, q_eq, q_eqm, q_meq, q_mltT, q_ltm, q_lem, q_mleT, if_true, if_false, if_pos, if_neg, Nat.reduceAdd, Nat.reduceMul, Nat.add_zero, Nat.zero_add, Nat.one_mul, not_true_eq_false, not_false_eq_true, u_row, u_self, u_ne, cb_bi, cb_bv, cb_bl, e1, Bool.false_eq_true, g176 r, cb_bi, e9]) (by
        intro n
        rw [f236_19]
        simp (disch := omega) only [n_0, n_1, n_2, n_3, n_4, n_5, n_6, n_7, n_8, n_9, n_10, n_12, n_13, n_16, n_30, n_60, n_61, n_86, n_99, n_100, n_200, n_201, n_1023, n_65535, n_10000, n_1000000, ↓q_m1, ↓q_m2, ↓q_m3, ↓q_m4, ↓q_m5, ↓q_m6, ↓q_m7, ↓q_m8, ↓q_m1000, ↓q_m100000, q_add, q_addm, q_inB, q_cl, q_le, q_lt, q_eq, q_eqm, q_meq, q_mltT, q_ltm, q_lem, q_mleT, if_true, if_false, if_pos, if_neg, Nat.reduceAdd, Nat.reduceMul, Nat.add_zero, Nat.zero_add, Nat.one_mul, not_true_eq_false, not_false_eq_true, u_row, u_self, u_ne, cb_bi, cb_bv, cb_bl, g176 r, cb_bi])) ?_
      cases fst (trY W t) (W 0 0 + 1) <;> rfl
  · refine PR.s h (v := -2) (by simp only [f90, k9f h.c h.w o0, cb_bi, i0f, i1f, i0n, i1n]) (fun M1 h1 => ?_)
    obtain ⟨M2, e, k, r, R⟩ := m_C hz h1
    exact ⟨M2, by simp only [f236, e, k183f r h1.w o0, cb_bi, i0f, i1f, i0n, i1n], k⟩
def cnt (p : Nat → Bool) : Nat → Nat
  | 0 => 0
  | n + 1 => cnt p n + (if p n = true then 1 else 0)
theorem nW_cnt (W : cW) (s : Nat → Nat) (c : Nat) : ∀ n, nW s (thT W c n) = cnt (fun t => frB W c t && sw s t) n
  | 0 => rfl
  | n + 1 => by
    have e : nW s (thT W c (n + 1)) = nW s (thT W c n) + (if W 1 n = c ∧ 0 < s n then 1 else 0) := ws_thT W s _ c n
    rw [e, nW_cnt W s c n]
    show _ = cnt _ n + _
    congr 1
    by_cases h1 : W 1 n = c <;> by_cases h2 : 0 < s n <;> simp [frB, sw, h1, h2]
theorem bt_0 (k : Nat) : bt 0 k = 0 := by unfold bt; rw [Nat.zero_div]
theorem pcS_bN (p : Nat → Bool) (n : Nat) : ∀ m, pcS (bN p n) m = cnt p (min n m)
  | 0 => by rw [Nat.min_zero]; rfl
  | m + 1 => by
    show pcS (bN p n) m + bt (bN p n) m = _
    rw [pcS_bN p n m]
    by_cases h : m < n
    · rw [Nat.min_eq_right (by omega), Nat.min_eq_right (by omega)]
      show _ = cnt p m + _
      congr 1
      have e := bt_bN p h
      have b2 := bt_lt (bN p n) m
      by_cases hp : p m = true
      · rw [if_pos hp, e]; exact hp
      · rw [if_neg hp]
        have : ¬ bt (bN p n) m = 1 := by rw [e]; exact hp
        omega
    · rw [Nat.min_eq_left (by omega), Nat.min_eq_left (by omega)]
      have e := bt_tb (bN p n) m
      rw [bN_tb] at e
      have b2 := bt_lt (bN p n) m
      have : ¬ bt (bN p n) m = 1 := by rw [e]; simp [h]
      omega
theorem pc_bN (p : Nat → Bool) {n : Nat} (h : n ≤ 16) : pc (bN p n) = cnt p n := by
  unfold pc
  rw [pcS_bN, Nat.min_eq_left h]
theorem cnt_0 (p : Nat → Bool) : ∀ n, (cnt p n = 0) = (bN p n = 0)
  | 0 => rfl
  | n + 1 => by
    have ih := cnt_0 p n
    have := Nat.two_pow_pos n
    unfold cnt bN
    apply propext
    by_cases h : p n = true
    · rw [if_pos h, if_pos h]; omega
    · rw [if_neg h, if_neg h, Nat.add_zero, Nat.add_zero, ih]
def hoB (W : cW) (s : Nat → Nat) : Nat → Bool := fun c => decide (nW s (thr W c) = 0)
theorem g237 {z : Nat} (hz : 2000 ≤ z) {M : aM} {W : cW} {Y : cY} {m y : Nat} (h : rM (M.1 206) W) (hW : wf W) (hR : zR M W Y m) (hm : m ≤ 13) (hy : y < m) (hb : ∀ t, Y y t ≤ 1000) : f237 z (nI y) M = some (some (.inl (nI (bN (hoB W (Y y)) (W 0 3)))), M) := by
  have hT : W 0 4 ≤ 16 := hW.2.2.2.2.1
  have hC8 : W 0 3 ≤ 8 := hW.2.2.2.1
  unfold f237
  simp only [n_0]
  obtain ⟨n, e0⟩ := lf0 (fun n k => f237_4 z n (nI y) (nI (bN (hoB W (Y y)) k)) (nI k) M) (W 0 3) z (by omega) (by
    intro n k hk
    have e8 := g209 (z := z) hz h hW (c := k) (by omega)
    have e9 := g229 (z := z) hz h hW hR hm hy hb
    have e7 : (bN (frB W k) (W 0 4) &&& bN (sw (Y y)) (W 0 4) = 0) = (nW (Y y) (thr W k) = 0) := by
      rw [bN_and, thr_eq, nW_cnt, cnt_0]
    have e6 : bN (frB W k) (W 0 4) &&& bN (sw (Y y)) (W 0 4) < 65536 := Nat.lt_of_le_of_lt Nat.and_le_left (bN_lt16 _ hT)
    rw [bN_or1, f237_4]
    by_cases hc0 : nW (Y y) (thr W k) = 0
    · have e1 : hoB W (Y y) k = true := by simp [hoB, hc0]
      simp (disch := omega) only [n_0, n_1, n_2, n_3, n_4, n_5, n_6, n_7, n_8, n_9, n_10, n_12, n_13, n_16, n_30, n_60, n_61, n_86, n_99, n_100, n_200, n_201, n_1023, n_65535, n_10000, n_1000000, ↓q_m1, ↓q_m2, ↓q_m3, ↓q_m4, ↓q_m5, ↓q_m6, ↓q_m7, ↓q_m8, ↓q_m1000, ↓q_m100000, q_add, q_addm, q_inB, q_cl, q_le, q_lt, q_eq, q_eqm, q_meq, q_mltT, q_ltm, q_lem, q_mleT, if_true, if_false, if_pos, if_neg, Nat.reduceAdd, Nat.reduceMul, Nat.add_zero, Nat.zero_add, Nat.one_mul, not_true_eq_false, not_false_eq_true, u_row, u_self, u_ne, cb_bi, cb_bv, cb_bl, e1, q_shl, q_orN, n_31, g177 h, cb_bi, e8, e9, q_andB, e7]
    · have e1 : hoB W (Y y) k = false := by simp [hoB, hc0]
      simp (disch := omega) only [n_0, n_1, n_2, n_3, n_4, n_5, n_6, n_7, n_8, n_9, n_10, n_12, n_13, n_16, n_30, n_60, n_61, n_86, n_99, n_100, n_200, n_201, n_1023, n_65535, n_10000, n_1000000, ↓q_m1, ↓q_m2, ↓q_m3, ↓q_m4, ↓q_m5, ↓q_m6, ↓q_m7, ↓q_m8, ↓q_m1000, ↓q_m100000, q_add, q_addm, q_inB, q_cl, q_le, q_lt, q_eq, q_eqm, q_meq, q_mltT, q_ltm, q_lem, q_mleT, if_true, if_false, if_pos, if_neg, Nat.reduceAdd, Nat.reduceMul, Nat.add_zero, Nat.zero_add, Nat.one_mul, not_true_eq_false, not_false_eq_true, u_row, u_self, u_ne, cb_bi, cb_bv, cb_bl, e1, q_orN, Bool.false_eq_true, Nat.or_zero, g177 h, cb_bi, e8, e9, q_andB, e7])
  refine Eq.trans e0 ?_
  rw [f237_4]
  simp (disch := omega) only [n_0, n_1, n_2, n_3, n_4, n_5, n_6, n_7, n_8, n_9, n_10, n_12, n_13, n_16, n_30, n_60, n_61, n_86, n_99, n_100, n_200, n_201, n_1023, n_65535, n_10000, n_1000000, ↓q_m1, ↓q_m2, ↓q_m3, ↓q_m4, ↓q_m5, ↓q_m6, ↓q_m7, ↓q_m8, ↓q_m1000, ↓q_m100000, q_add, q_addm, q_inB, q_cl, q_le, q_lt, q_eq, q_eqm, q_meq, q_mltT, q_ltm, q_lem, q_mleT, if_true, if_false, if_pos, if_neg, Nat.reduceAdd, Nat.reduceMul, Nat.add_zero, Nat.zero_add, Nat.one_mul, not_true_eq_false, not_false_eq_true, u_row, u_self, u_ne, cb_bi, cb_bv, cb_bl, g177 h, cb_bi]
theorem P_holes {z : Nat} (hz : 2000 ≤ z) {M : aM} {W : cW} (h : RW M W) (x1 : Int32) : PR (f91 z x1 M) (f238 z x1) := by
  by_cases o0 : okY W x1
  · obtain ⟨h7, y, hy, rfl⟩ := o0
    have hy2 : y ≤ W 0 0 := Nat.le_of_lt_succ hy
    have hN3 := h.n3
    have hN4 := h.n4
    have hN5 := h.n5
    have hN0 := h.n0
    refine PR.q h (v := nI (bN (hoB W (tY W y)) (W 0 3))) (M1 := M) ?_ kR.id0 (fun M1 h1 => ?_)
    · simp only [f91, k11t h.c h.w h7 (Nat.le_of_lt_succ hy), cb_bi, i0f, i1f, i0n, i1n]
      simp only [n_0]
      obtain ⟨n, e0⟩ := lf0 (fun n k => f91_18 z n (nI y) (nI (bN (hoB W (tY W y)) k)) (nI k) M) (W 0 3) z (by omega) (by
        intro n k hk
        have hwl : nW (tY W y) (thr W k) ≤ 16 := Nat.le_trans (nW_le _ _) (thr_len h.w k)
        have e9 := c_whole (z := z) (r := 33 + (1 + y)) (s := tY W y) (c := k) hz 67 h.w h.c (fun t ht => h.row hy2 ht) (fun t _ => h.rb hy2 t) (by omega)
        rw [bN_or1, f91_18]
        by_cases hc0 : nW (tY W y) (thr W k) = 0
        · have e1 : hoB W (tY W y) k = true := by simp [hoB, hc0]
          simp (disch := omega) only [n_0, n_1, n_2, n_3, n_4, n_5, n_6, n_7, n_8, n_9, n_10, n_12, n_13, n_16, n_30, n_60, n_61, n_86, n_99, n_100, n_200, n_201, n_1023, n_65535, n_10000, n_1000000, ↓q_m1, ↓q_m2, ↓q_m3, ↓q_m4, ↓q_m5, ↓q_m6, ↓q_m7, ↓q_m8, ↓q_m1000, ↓q_m100000, q_add, q_addm, q_inB, q_cl, q_le, q_lt, q_eq, q_eqm, q_meq, q_mltT, q_ltm, q_lem, q_mleT, if_true, if_false, if_pos, if_neg, Nat.reduceAdd, Nat.reduceMul, Nat.add_zero, Nat.zero_add, Nat.one_mul, not_true_eq_false, not_false_eq_true, u_row, u_self, u_ne, cb_bi, cb_bv, cb_bl, e1, q_shl, q_orN, n_31, h.c.i4, e9]
        · have e1 : hoB W (tY W y) k = false := by simp [hoB, hc0]
          simp (disch := omega) only [n_0, n_1, n_2, n_3, n_4, n_5, n_6, n_7, n_8, n_9, n_10, n_12, n_13, n_16, n_30, n_60, n_61, n_86, n_99, n_100, n_200, n_201, n_1023, n_65535, n_10000, n_1000000, ↓q_m1, ↓q_m2, ↓q_m3, ↓q_m4, ↓q_m5, ↓q_m6, ↓q_m7, ↓q_m8, ↓q_m1000, ↓q_m100000, q_add, q_addm, q_inB, q_cl, q_le, q_lt, q_eq, q_eqm, q_meq, q_mltT, q_ltm, q_lem, q_mleT, if_true, if_false, if_pos, if_neg, Nat.reduceAdd, Nat.reduceMul, Nat.add_zero, Nat.zero_add, Nat.one_mul, not_true_eq_false, not_false_eq_true, u_row, u_self, u_ne, cb_bi, cb_bv, cb_bl, e1, q_orN, Bool.false_eq_true, Nat.or_zero, h.c.i4, e9])
      refine Eq.trans e0 ?_
      rw [f91_18]
      simp (disch := omega) only [n_0, n_1, n_2, n_3, n_4, n_5, n_6, n_7, n_8, n_9, n_10, n_12, n_13, n_16, n_30, n_60, n_61, n_86, n_99, n_100, n_200, n_201, n_1023, n_65535, n_10000, n_1000000, ↓q_m1, ↓q_m2, ↓q_m3, ↓q_m4, ↓q_m5, ↓q_m6, ↓q_m7, ↓q_m8, ↓q_m1000, ↓q_m100000, q_add, q_addm, q_inB, q_cl, q_le, q_lt, q_eq, q_eqm, q_meq, q_mltT, q_ltm, q_lem, q_mleT, if_true, if_false, if_pos, if_neg, Nat.reduceAdd, Nat.reduceMul, Nat.add_zero, Nat.zero_add, Nat.one_mul, not_true_eq_false, not_false_eq_true, u_row, u_self, u_ne, cb_bi, cb_bv, cb_bl, h.c.i4]
    · obtain ⟨M2, e, k, r, R⟩ := m_Yt hz h1 h7 (Nat.le_of_lt_succ hy)
      refine ⟨M2, ?_, k⟩
      simp only [f238, e, cb_bi, i0f, i1f, i0n, i1n]
      rw [g237 hz r h1.w R (by omega) (by omega) (h1.rb hy2), cb_bi]
  · refine PR.s h (v := -2) (by simp only [f91, k11f h.c h.w o0, cb_bi, i0f, i1f, i0n, i1n]) (fun M1 h1 => ?_)
    obtain ⟨M2, e, k⟩ := m_Yf hz h1 o0
    exact ⟨M2, by simp only [f238, e, cb_bi, i0f, i1f, i0n, i1n], k⟩
def hoY (W : cW) (c : Nat) : Nat → Bool := fun y => decide (nW (tY W y) (thr W c) = 0)
theorem P_hole {z : Nat} (hz : 2000 ≤ z) {M : aM} {W : cW} (h : RW M W) (x1 : Int32) : PR (f92 z x1 M) (f239 z x1) := by
  by_cases o0 : okN (W 0 3) x1
  · obtain ⟨c, hc, rfl⟩ := o0
    have hN3 := h.n3
    have hN4 := h.n4
    have hN5 := h.n5
    have hN0 := h.n0
    refine PR.q h (v := oI (fst (hoY W c) (W 0 0 + 1))) (M1 := M) ?_ kR.id0 (fun M1 h1 => ?_)
    · simp only [f92, k8t h.c h.w hc, cb_bi, i0f, i1f, i0n, i1n]
      simp only [n_0]
      refine Eq.trans (le0 (fun n k => f92_16 z n (nI c) (nI k) M) (W 0 0 + 1) z (hoY W c) (fun k => some (some (.inl (nI k)), M)) (some (some (.inl mI), M)) (by omega) (by
        intro n k hk
        have hwl : nW (tY W k) (thr W c) ≤ 16 := Nat.le_trans (nW_le _ _) (thr_len h.w c)
        have e9 := c_whole (z := z) (r := 33 + (1 + k)) (s := tY W k) (c := c) hz 67 h.w h.c (fun t ht => h.row (Nat.le_of_lt_succ hk) ht) (fun t _ => h.rb (Nat.le_of_lt_succ hk) t) (by omega)
        rw [f92_16]
        by_cases hc0 : nW (tY W k) (thr W c) = 0
        · have e1 : (hoY W c) k = true := by simp [hoY, hc0]
          simp (disch := omega) only [n_0, n_1, n_2, n_3, n_4, n_5, n_6, n_7, n_8, n_9, n_10, n_12, n_13, n_16, n_30, n_60, n_61, n_86, n_99, n_100, n_200, n_201, n_1023, n_65535, n_10000, n_1000000, ↓q_m1, ↓q_m2, ↓q_m3, ↓q_m4, ↓q_m5, ↓q_m6, ↓q_m7, ↓q_m8, ↓q_m1000, ↓q_m100000, q_add, q_addm, q_inB, q_cl, q_le, q_lt, q_eq, q_eqm, q_meq, q_mltT, q_ltm, q_lem, q_mleT, if_true, if_false, if_pos, if_neg, Nat.reduceAdd, Nat.reduceMul, Nat.add_zero, Nat.zero_add, Nat.one_mul, not_true_eq_false, not_false_eq_true, u_row, u_self, u_ne, cb_bi, cb_bv, cb_bl, e1, h.c.i1, e9]
        · have e1 : (hoY W c) k = false := by simp [hoY, hc0]
          simp (disch := omega) only [n_0, n_1, n_2, n_3, n_4, n_5, n_6, n_7, n_8, n_9, n_10, n_12, n_13, n_16, n_30, n_60, n_61, n_86, n_99, n_100, n_200, n_201, n_1023, n_65535, n_10000, n_1000000, ↓q_m1, ↓q_m2, ↓q_m3, ↓q_m4, ↓q_m5, ↓q_m6, ↓q_m7, ↓q_m8, ↓q_m1000, ↓q_m100000, q_add, q_addm, q_inB, q_cl, q_le, q_lt, q_eq, q_eqm, q_meq, q_mltT, q_ltm, q_lem, q_mleT, if_true, if_false, if_pos, if_neg, Nat.reduceAdd, Nat.reduceMul, Nat.add_zero, Nat.zero_add, Nat.one_mul, not_true_eq_false, not_false_eq_true, u_row, u_self, u_ne, cb_bi, cb_bv, cb_bl, e1, Bool.false_eq_true, h.c.i1, e9]) (by
        intro n
        rw [f92_16]
        simp (disch := omega) only [n_0, n_1, n_2, n_3, n_4, n_5, n_6, n_7, n_8, n_9, n_10, n_12, n_13, n_16, n_30, n_60, n_61, n_86, n_99, n_100, n_200, n_201, n_1023, n_65535, n_10000, n_1000000, ↓q_m1, ↓q_m2, ↓q_m3, ↓q_m4, ↓q_m5, ↓q_m6, ↓q_m7, ↓q_m8, ↓q_m1000, ↓q_m100000, q_add, q_addm, q_inB, q_cl, q_le, q_lt, q_eq, q_eqm, q_meq, q_mltT, q_ltm, q_lem, q_mleT, if_true, if_false, if_pos, if_neg, Nat.reduceAdd, Nat.reduceMul, Nat.add_zero, Nat.zero_add, Nat.one_mul, not_true_eq_false, not_false_eq_true, u_row, u_self, u_ne, cb_bi, cb_bv, cb_bl, h.c.i1])) ?_
      cases fst (hoY W c) (W 0 0 + 1) <;> rfl
    · obtain ⟨M2, e, k, r, R⟩ := m_C hz h1
      refine ⟨M2, ?_, k⟩
      simp only [f239, e, k182t r h1.w hc, cb_bi, i0f, i1f, i0n, i1n]
      simp only [n_0]
      refine Eq.trans (le0 (fun n k => f239_18 z n (nI c) (nI k) M2) (W 0 0 + 1) z (hoY W c) (fun k => some (some (.inl (nI k)), M2)) (some (some (.inl mI), M2)) (by omega) (by
        intro n k hk
        have e9 := g237 (z := z) hz r h1.w R (by omega) hk (h1.rb (Nat.le_of_lt_succ hk))
        have e8 : (bt (bN (hoB W (tY W k)) (W 0 3)) c = 1) = (nW (tY W k) (thr W c) = 0) := by rw [bt_bN _ hc]; simp [hoB]
        have e7 := g172 z M2 (x := bN (hoB W (tY W k)) (W 0 3)) (k := c) (by have := bN_ltm (hoB W (tY W k)) (show W 0 3 ≤ 8 by omega); omega) (by omega)
        have e6 := bt_lt (bN (hoB W (tY W k)) (W 0 3)) c
        rw [f239_18]
        by_cases hc0 : nW (tY W k) (thr W c) = 0
        · have e1 : (hoY W c) k = true := by simp [hoY, hc0]
          simp (disch := omega) only [n_0, n_1, n_2, n_3, n_4, n_5, n_6, n_7, n_8, n_9, n_10, n_12, n_13, n_16, n_30, n_60, n_61, n_86, n_99, n_100, n_200, n_201, n_1023, n_65535, n_10000, n_1000000, ↓q_m1, ↓q_m2, ↓q_m3, ↓q_m4, ↓q_m5, ↓q_m6, ↓q_m7, ↓q_m8, ↓q_m1000, ↓q_m100000, q_add, q_addm, q_inB, q_cl, q_le, q_lt, q_eq, q_eqm, q_meq, q_mltT, q_ltm, q_lem, q_mleT, if_true, if_false, if_pos, if_neg, Nat.reduceAdd, Nat.reduceMul, Nat.add_zero, Nat.zero_add, Nat.one_mul, not_true_eq_false, not_false_eq_true, u_row, u_self, u_ne, cb_bi, cb_bv, cb_bl, e1, g176 r, cb_bi, e9, e7, e8]
        · have e1 : (hoY W c) k = false := by simp [hoY, hc0]
          simp (disch := omega) only [n_0, n_1, n_2, n_3, n_4, n_5, n_6, n_7, n_8, n_9, n_10, n_12, n_13, n_16, n_30, n_60, n_61, n_86, n_99, n_100, n_200, n_201, n_1023, n_65535, n_10000, n_1000000, ↓q_m1, ↓q_m2, ↓q_m3, ↓q_m4, ↓q_m5, ↓q_m6, ↓q_m7, ↓q_m8, ↓q_m1000, ↓q_m100000, q_add, q_addm, q_inB, q_cl, q_le, q_lt, q_eq, q_eqm, q_meq, q_mltT, q_ltm, q_lem, q_mleT, if_true, if_false, if_pos, if_neg, Nat.reduceAdd, Nat.reduceMul, Nat.add_zero, Nat.zero_add, Nat.one_mul, not_true_eq_false, not_false_eq_true, u_row, u_self, u_ne, cb_bi, cb_bv, cb_bl, e1, Bool.false_eq_true, g176 r, cb_bi, e9, e7, e8]) (by
        intro n
        rw [f239_18]
        simp (disch := omega) only [n_0, n_1, n_2, n_3, n_4, n_5, n_6, n_7, n_8, n_9, n_10, n_12, n_13, n_16, n_30, n_60, n_61, n_86, n_99, n_100, n_200, n_201, n_1023, n_65535, n_10000, n_1000000, ↓q_m1, ↓q_m2, ↓q_m3, ↓q_m4, ↓q_m5, ↓q_m6, ↓q_m7, ↓q_m8, ↓q_m1000, ↓q_m100000, q_add, q_addm, q_inB, q_cl, q_le, q_lt, q_eq, q_eqm, q_meq, q_mltT, q_ltm, q_lem, q_mleT, if_true, if_false, if_pos, if_neg, Nat.reduceAdd, Nat.reduceMul, Nat.add_zero, Nat.zero_add, Nat.one_mul, not_true_eq_false, not_false_eq_true, u_row, u_self, u_ne, cb_bi, cb_bv, cb_bl, g176 r, cb_bi])) ?_
      cases fst (hoY W c) (W 0 0 + 1) <;> rfl
  · refine PR.s h (v := -2) (by simp only [f92, k8f h.c h.w o0, cb_bi, i0f, i1f, i0n, i1n]) (fun M1 h1 => ?_)
    obtain ⟨M2, e, k, r, R⟩ := m_C hz h1
    exact ⟨M2, by simp only [f239, e, k182f r h1.w o0, cb_bi, i0f, i1f, i0n, i1n], k⟩
theorem P_hung {z : Nat} (hz : 2000 ≤ z) {M : aM} {W : cW} (h : RW M W) (x1 : Int32) : PR (f93 z x1 M) (f240 z x1) := by
  by_cases o0 : okY W x1
  · obtain ⟨h7, y, hy, rfl⟩ := o0
    have hy2 : y ≤ W 0 0 := Nat.le_of_lt_succ hy
    have hN3 := h.n3
    have hN4 := h.n4
    have hN5 := h.n5
    have hN0 := h.n0
    refine PR.q h (v := nI (hg W (sw (tY W y)) (W 0 3))) (M1 := M) ?_ kR.id0 (fun M1 h1 => ?_)
    · simp only [f93, k11t h.c h.w h7 (Nat.le_of_lt_succ hy), cb_bi, i0f, i1f, i0n, i1n]
      have e9 := c_hang (z := z) (r := 33 + (1 + y)) (s := tY W y) hz 67 h.w h.c (fun t ht => h.row (hy2) ht) (fun t _ => h.rb (hy2) t)
      simp (disch := omega) only [n_0, n_1, n_2, n_3, n_4, n_5, n_6, n_7, n_8, n_9, n_10, n_12, n_13, n_16, n_30, n_60, n_61, n_86, n_99, n_100, n_200, n_201, n_1023, n_65535, n_10000, n_1000000, ↓q_m1, ↓q_m2, ↓q_m3, ↓q_m4, ↓q_m5, ↓q_m6, ↓q_m7, ↓q_m8, ↓q_m1000, ↓q_m100000, q_add, q_addm, q_inB, q_cl, q_le, q_lt, q_eq, q_eqm, q_meq, q_mltT, q_ltm, q_lem, q_mleT, if_true, if_false, if_pos, if_neg, Nat.reduceAdd, Nat.reduceMul, Nat.add_zero, Nat.zero_add, Nat.one_mul, not_true_eq_false, not_false_eq_true, u_row, u_self, u_ne, cb_bi, cb_bv, cb_bl, e9]
    · obtain ⟨M2, e, k, r, R⟩ := m_Yt hz h1 h7 (Nat.le_of_lt_succ hy)
      refine ⟨M2, ?_, k⟩
      simp only [f240, e, cb_bi, i0f, i1f, i0n, i1n]
      rw [g231 hz r h1.w R (by omega) (by omega) (h1.rb hy2), cb_bi]
  · refine PR.s h (v := -2) (by simp only [f93, k11f h.c h.w o0, cb_bi, i0f, i1f, i0n, i1n]) (fun M1 h1 => ?_)
    obtain ⟨M2, e, k⟩ := m_Yf hz h1 o0
    exact ⟨M2, by simp only [f240, e, cb_bi, i0f, i1f, i0n, i1n], k⟩
