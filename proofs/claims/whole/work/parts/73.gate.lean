/-! ===== gate, bursts, soft ===== -/
def hmB (W : cW) (s : Nat → Nat) (c : Nat) : Nat → Bool := fun k => decide ((qd W (W 0 1) c (k + 1) s).2.2.2 ≠ 0) || decide (0 < (qd W (W 0 1) c (k + 1) s).2.1.2.2.1)
def buB (W : cW) (s : Nat → Nat) (c : Nat) : Nat → Bool := fun k => decide (0 < (qd W (W 0 1) c (k + 1) s).2.1.2.2.1)
def su : Option Nat → Option Nat
  | none => none
  | some k => some (k + 1)
def s1 (m : Nat) : Option Nat → Nat
  | none => m
  | some k => k + 1
theorem fst_st {p : Nat → Bool} {m k : Nat} (h : fst p m = some k) : ∀ j, fst p (m + j) = some k
  | 0 => h
  | j + 1 => by
    show fst p (m + j + 1) = some k
    unfold fst
    rw [fst_st h j]
theorem fst_cut (p : Nat → Bool) {m N : Nat} (h : m ≤ N) : fst p m = (match fst p N with | some k => if k < m then some k else none | none => none) := by
  cases e : fst p m with
  | some k =>
    have := fst_st e (N - m)
    rw [show m + (N - m) = N by omega] at this
    rw [this]
    simp only [(fst_s e).1, if_true]
  | none =>
    cases e2 : fst p N with
    | none => rfl
    | some k =>
      have h1 := fst_s e2
      simp only
      by_cases q : k < m
      · have := fst_n e k q
        rw [h1.2.1] at this
        cases this
      · rw [if_neg q]
/-- leastHarm -/
theorem c_least {z : Nat} (hz : 2000 ≤ z) {M : aM} {W : cW} (hW : wf W) (hC : rC M 18 W) {r c most : Nat} {s : Nat → Nat} (hs : ∀ t, t < W 0 4 → M.1 r t = nI (s t)) (hr : ¬ tS r) (hb : bd s) (hc : c < 8) (hm : most ≤ 200) :
    ∃ M', f53 z 18 r (nI c) (nI most) M = some (some (.inl (oI (su (fst (hmB W s c) most)))), M') ∧ Fx tS M M' := by
  unfold f53
  simp only [n_1]
  obtain ⟨M', hI, e⟩ := leM (fun n k M' => f53_3 z n 18 r (nI c) (nI most) (nI (k + 1)) M') most (hmB W s c) (fun k M' => some (some (.inl (nI (k + 1))), M')) (fun M' => some (some (.inl mI), M')) (fun M' => Fx tS M M') (by
    intro n k M' hk hI
    have hC' := hC.fx hI (fun a q => by unfold tS at q; omega)
    obtain ⟨M1, e1, e2, e3, e4, e5⟩ := c_try hz hW hC' (r := r) (s := s) (c := c) (n0 := k + 1) (by rw [hI.2 r hr]; exact hs) hb hc (by omega)
    have hrp := qd_rp hW (W 0 1) c (k + 1) s
    have hlo := (qd_lo hW (W 0 1) c (k + 1) s).1
    refine ⟨M1, hI.trans e2, ?_⟩
    rw [f53_3]
    by_cases h1 : (qd W (W 0 1) c (k + 1) s).2.2.2 = 0
    · by_cases h2 : 0 < (qd W (W 0 1) c (k + 1) s).2.1.2.2.1
      · have ep : hmB W s c k = true := by simp [hmB, h2]
        simp (disch := omega) only [n_0, n_1, n_2, n_3, n_4, n_5, n_6, n_7, n_8, n_9, n_10, n_12, n_13, n_16, n_30, n_60, n_61, n_86, n_99, n_100, n_200, n_201, n_1023, n_65535, n_10000, n_1000000, ↓q_m1, ↓q_m2, ↓q_m3, ↓q_m4, ↓q_m5, ↓q_m6, ↓q_m7, ↓q_m8, ↓q_m1000, ↓q_m100000, q_add, q_addm, q_inB, q_cl, q_le, q_lt, q_eq, q_eqm, q_meq, q_mltT, q_ltm, q_lem, q_mleT, if_true, if_false, if_pos, if_neg, Nat.reduceAdd, Nat.reduceMul, Nat.add_zero, Nat.zero_add, Nat.one_mul, not_true_eq_false, not_false_eq_true, u_row, u_self, u_ne, cb_bi, cb_bv, cb_bl, e1, k_br, e4, e5, h1, ep]
      · have ep : hmB W s c k = false := by simp [hmB, h1, h2]
        simp (disch := omega) only [n_0, n_1, n_2, n_3, n_4, n_5, n_6, n_7, n_8, n_9, n_10, n_12, n_13, n_16, n_30, n_60, n_61, n_86, n_99, n_100, n_200, n_201, n_1023, n_65535, n_10000, n_1000000, ↓q_m1, ↓q_m2, ↓q_m3, ↓q_m4, ↓q_m5, ↓q_m6, ↓q_m7, ↓q_m8, ↓q_m1000, ↓q_m100000, q_add, q_addm, q_inB, q_cl, q_le, q_lt, q_eq, q_eqm, q_meq, q_mltT, q_ltm, q_lem, q_mleT, if_true, if_false, if_pos, if_neg, Nat.reduceAdd, Nat.reduceMul, Nat.add_zero, Nat.zero_add, Nat.one_mul, not_true_eq_false, not_false_eq_true, u_row, u_self, u_ne, cb_bi, cb_bv, cb_bl, e1, k_br, e4, e5, h1, ep, Bool.false_eq_true]
    · have ep : hmB W s c k = true := by simp [hmB, h1]
      simp (disch := omega) only [n_0, n_1, n_2, n_3, n_4, n_5, n_6, n_7, n_8, n_9, n_10, n_12, n_13, n_16, n_30, n_60, n_61, n_86, n_99, n_100, n_200, n_201, n_1023, n_65535, n_10000, n_1000000, ↓q_m1, ↓q_m2, ↓q_m3, ↓q_m4, ↓q_m5, ↓q_m6, ↓q_m7, ↓q_m8, ↓q_m1000, ↓q_m100000, q_add, q_addm, q_inB, q_cl, q_le, q_lt, q_eq, q_eqm, q_meq, q_mltT, q_ltm, q_lem, q_mleT, if_true, if_false, if_pos, if_neg, Nat.reduceAdd, Nat.reduceMul, Nat.add_zero, Nat.zero_add, Nat.one_mul, not_true_eq_false, not_false_eq_true, u_row, u_self, u_ne, cb_bi, cb_bv, cb_bl, e1, k_br, e4, e5, ep]) (by
    intro n M' hI
    refine ⟨M', hI, ?_⟩
    rw [f53_3]
    simp (disch := omega) only [n_0, n_1, n_2, n_3, n_4, n_5, n_6, n_7, n_8, n_9, n_10, n_12, n_13, n_16, n_30, n_60, n_61, n_86, n_99, n_100, n_200, n_201, n_1023, n_65535, n_10000, n_1000000, ↓q_m1, ↓q_m2, ↓q_m3, ↓q_m4, ↓q_m5, ↓q_m6, ↓q_m7, ↓q_m8, ↓q_m1000, ↓q_m100000, q_add, q_addm, q_inB, q_cl, q_le, q_lt, q_eq, q_eqm, q_meq, q_mltT, q_ltm, q_lem, q_mleT, if_true, if_false, if_pos, if_neg, Nat.reduceAdd, Nat.reduceMul, Nat.add_zero, Nat.zero_add, Nat.one_mul, not_true_eq_false, not_false_eq_true, u_row, u_self, u_ne, cb_bi, cb_bv, cb_bl]) z M (by omega) Fx.id0
  refine ⟨M', ?_, hI⟩
  refine Eq.trans e ?_
  cases fst (hmB W s c) most <;> rfl
/-- gateOf -/
theorem m_gate {z : Nat} (hz : 2000 ≤ z) {M : aM} {W : cW} (h : rM (M.1 206) W) (hW : wf W) {y c : Nat} {s : Nat → Nat} (hy : y ≤ 12) (hs : ∀ t, t < W 0 4 → M.1 218 (16 * y + t) = nI (s t)) (hb : bd s) (hl : M.1 205 16 = nI (W 0 1)) (hc : c < W 0 3) :
    ∃ M', f268 z (nI c) (nI y) (nI 0) M = some (some (.inl (nI (s1 201 (fst (hmB W s c) 200)))), M') ∧ kQ M M' := by
  unfold f268
  simp only [n_1]
  obtain ⟨M', hI, e⟩ := leM (fun n k M' => f268_3 z n (nI c) (nI y) (nI 0) (nI (k + 1)) M') 200 (hmB W s c) (fun k M' => some (some (.inl (nI (k + 1))), M')) (fun M' => some (some (.inl (nI 201)), M')) (fun M' => kQ M M') (by
    intro n k M' hk hI
    obtain ⟨M1, e1, e2, e3, e4⟩ := m_try hz (M := M') (y := y) (c := c) (n0 := k + 1) (s := s) (law := W 0 1) (by rw [hI.r206]; exact h) hW hy (by rw [hI.r (by unfold kS; omega)]; exact hs) hb (by rw [hI.2 16 (by omega)]; exact hl) hW.2.1 hc (by omega)
    have hrp := qd_rp hW (W 0 1) c (k + 1) s
    have hlo := (qd_lo hW (W 0 1) c (k + 1) s).1
    have e5 := e3.2.2.1
    refine ⟨M1, hI.trans e2, ?_⟩
    rw [f268_3]
    by_cases h2 : 0 < (qd W (W 0 1) c (k + 1) s).2.1.2.2.1
    · have ep : hmB W s c k = true := by simp [hmB, h2]
      simp (disch := omega) only [n_0, n_1, n_2, n_3, n_4, n_5, n_6, n_7, n_8, n_9, n_10, n_12, n_13, n_16, n_30, n_60, n_61, n_86, n_99, n_100, n_200, n_201, n_1023, n_65535, n_10000, n_1000000, ↓q_m1, ↓q_m2, ↓q_m3, ↓q_m4, ↓q_m5, ↓q_m6, ↓q_m7, ↓q_m8, ↓q_m1000, ↓q_m100000, q_add, q_addm, q_inB, q_cl, q_le, q_lt, q_eq, q_eqm, q_meq, q_mltT, q_ltm, q_lem, q_mleT, if_true, if_false, if_pos, if_neg, Nat.reduceAdd, Nat.reduceMul, Nat.add_zero, Nat.zero_add, Nat.one_mul, not_true_eq_false, not_false_eq_true, u_row, u_self, u_ne, cb_bi, cb_bv, cb_bl, e1, e4, e5, ep]
    · by_cases h1 : (qd W (W 0 1) c (k + 1) s).2.2.2 = 0
      · have ep : hmB W s c k = false := by simp [hmB, h1, h2]
        simp (disch := omega) only [n_0, n_1, n_2, n_3, n_4, n_5, n_6, n_7, n_8, n_9, n_10, n_12, n_13, n_16, n_30, n_60, n_61, n_86, n_99, n_100, n_200, n_201, n_1023, n_65535, n_10000, n_1000000, ↓q_m1, ↓q_m2, ↓q_m3, ↓q_m4, ↓q_m5, ↓q_m6, ↓q_m7, ↓q_m8, ↓q_m1000, ↓q_m100000, q_add, q_addm, q_inB, q_cl, q_le, q_lt, q_eq, q_eqm, q_meq, q_mltT, q_ltm, q_lem, q_mleT, if_true, if_false, if_pos, if_neg, Nat.reduceAdd, Nat.reduceMul, Nat.add_zero, Nat.zero_add, Nat.one_mul, not_true_eq_false, not_false_eq_true, u_row, u_self, u_ne, cb_bi, cb_bv, cb_bl, e1, e4, e5, h1, ep, Bool.false_eq_true]
      · have ep : hmB W s c k = true := by simp [hmB, h1]
        simp (disch := omega) only [n_0, n_1, n_2, n_3, n_4, n_5, n_6, n_7, n_8, n_9, n_10, n_12, n_13, n_16, n_30, n_60, n_61, n_86, n_99, n_100, n_200, n_201, n_1023, n_65535, n_10000, n_1000000, ↓q_m1, ↓q_m2, ↓q_m3, ↓q_m4, ↓q_m5, ↓q_m6, ↓q_m7, ↓q_m8, ↓q_m1000, ↓q_m100000, q_add, q_addm, q_inB, q_cl, q_le, q_lt, q_eq, q_eqm, q_meq, q_mltT, q_ltm, q_lem, q_mleT, if_true, if_false, if_pos, if_neg, Nat.reduceAdd, Nat.reduceMul, Nat.add_zero, Nat.zero_add, Nat.one_mul, not_true_eq_false, not_false_eq_true, u_row, u_self, u_ne, cb_bi, cb_bv, cb_bl, e1, e4, e5, ep]) (by
    intro n M' hI
    refine ⟨M', hI, ?_⟩
    rw [f268_3]
    simp (disch := omega) only [n_0, n_1, n_2, n_3, n_4, n_5, n_6, n_7, n_8, n_9, n_10, n_12, n_13, n_16, n_30, n_60, n_61, n_86, n_99, n_100, n_200, n_201, n_1023, n_65535, n_10000, n_1000000, ↓q_m1, ↓q_m2, ↓q_m3, ↓q_m4, ↓q_m5, ↓q_m6, ↓q_m7, ↓q_m8, ↓q_m1000, ↓q_m100000, q_add, q_addm, q_inB, q_cl, q_le, q_lt, q_eq, q_eqm, q_meq, q_mltT, q_ltm, q_lem, q_mleT, if_true, if_false, if_pos, if_neg, Nat.reduceAdd, Nat.reduceMul, Nat.add_zero, Nat.zero_add, Nat.one_mul, not_true_eq_false, not_false_eq_true, u_row, u_self, u_ne, cb_bi, cb_bv, cb_bl]) z M (by omega) kQ.id0
  refine ⟨M', ?_, hI⟩
  refine Eq.trans e ?_
  cases fst (hmB W s c) 200 <;> rfl
theorem m_burst {z : Nat} (hz : 2000 ≤ z) {M : aM} {W : cW} (h : rM (M.1 206) W) (hW : wf W) {y c : Nat} {s : Nat → Nat} (hy : y ≤ 12) (hs : ∀ t, t < W 0 4 → M.1 218 (16 * y + t) = nI (s t)) (hb : bd s) (hl : M.1 205 16 = nI (W 0 1)) (hc : c < W 0 3) :
    ∃ M', f268 z (nI c) (nI y) (nI 1) M = some (some (.inl (nI (s1 201 (fst (buB W s c) 200)))), M') ∧ kQ M M' := by
  unfold f268
  simp only [n_1]
  obtain ⟨M', hI, e⟩ := leM (fun n k M' => f268_3 z n (nI c) (nI y) (nI 1) (nI (k + 1)) M') 200 (buB W s c) (fun k M' => some (some (.inl (nI (k + 1))), M')) (fun M' => some (some (.inl (nI 201)), M')) (fun M' => kQ M M') (by
    intro n k M' hk hI
    obtain ⟨M1, e1, e2, e3, e4⟩ := m_try hz (M := M') (y := y) (c := c) (n0 := k + 1) (s := s) (law := W 0 1) (by rw [hI.r206]; exact h) hW hy (by rw [hI.r (by unfold kS; omega)]; exact hs) hb (by rw [hI.2 16 (by omega)]; exact hl) hW.2.1 hc (by omega)
    have hlo := (qd_lo hW (W 0 1) c (k + 1) s).1
    have e5 := e3.2.2.1
    refine ⟨M1, hI.trans e2, ?_⟩
    rw [f268_3]
    by_cases h2 : 0 < (qd W (W 0 1) c (k + 1) s).2.1.2.2.1
    · have ep : buB W s c k = true := by simp [buB, h2]
      simp (disch := omega) only [n_0, n_1, n_2, n_3, n_4, n_5, n_6, n_7, n_8, n_9, n_10, n_12, n_13, n_16, n_30, n_60, n_61, n_86, n_99, n_100, n_200, n_201, n_1023, n_65535, n_10000, n_1000000, ↓q_m1, ↓q_m2, ↓q_m3, ↓q_m4, ↓q_m5, ↓q_m6, ↓q_m7, ↓q_m8, ↓q_m1000, ↓q_m100000, q_add, q_addm, q_inB, q_cl, q_le, q_lt, q_eq, q_eqm, q_meq, q_mltT, q_ltm, q_lem, q_mleT, if_true, if_false, if_pos, if_neg, Nat.reduceAdd, Nat.reduceMul, Nat.add_zero, Nat.zero_add, Nat.one_mul, not_true_eq_false, not_false_eq_true, u_row, u_self, u_ne, cb_bi, cb_bv, cb_bl, e1, e4, e5, ep]
    · have ep : buB W s c k = false := by simp [buB, h2]
      simp (disch := omega) only [n_0, n_1, n_2, n_3, n_4, n_5, n_6, n_7, n_8, n_9, n_10, n_12, n_13, n_16, n_30, n_60, n_61, n_86, n_99, n_100, n_200, n_201, n_1023, n_65535, n_10000, n_1000000, ↓q_m1, ↓q_m2, ↓q_m3, ↓q_m4, ↓q_m5, ↓q_m6, ↓q_m7, ↓q_m8, ↓q_m1000, ↓q_m100000, q_add, q_addm, q_inB, q_cl, q_le, q_lt, q_eq, q_eqm, q_meq, q_mltT, q_ltm, q_lem, q_mleT, if_true, if_false, if_pos, if_neg, Nat.reduceAdd, Nat.reduceMul, Nat.add_zero, Nat.zero_add, Nat.one_mul, not_true_eq_false, not_false_eq_true, u_row, u_self, u_ne, cb_bi, cb_bv, cb_bl, e1, e4, e5, ep, Bool.false_eq_true]) (by
    intro n M' hI
    refine ⟨M', hI, ?_⟩
    rw [f268_3]
    simp (disch := omega) only [n_0, n_1, n_2, n_3, n_4, n_5, n_6, n_7, n_8, n_9, n_10, n_12, n_13, n_16, n_30, n_60, n_61, n_86, n_99, n_100, n_200, n_201, n_1023, n_65535, n_10000, n_1000000, ↓q_m1, ↓q_m2, ↓q_m3, ↓q_m4, ↓q_m5, ↓q_m6, ↓q_m7, ↓q_m8, ↓q_m1000, ↓q_m100000, q_add, q_addm, q_inB, q_cl, q_le, q_lt, q_eq, q_eqm, q_meq, q_mltT, q_ltm, q_lem, q_mleT, if_true, if_false, if_pos, if_neg, Nat.reduceAdd, Nat.reduceMul, Nat.add_zero, Nat.zero_add, Nat.one_mul, not_true_eq_false, not_false_eq_true, u_row, u_self, u_ne, cb_bi, cb_bv, cb_bl]) z M (by omega) kQ.id0
  refine ⟨M', ?_, hI⟩
  refine Eq.trans e ?_
  cases fst (buB W s c) 200 <;> rfl
theorem s1_le {p : Nat → Bool} {m N : Nat} (h : N < m) : s1 m (fst p N) ≤ m := by
  cases e : fst p N with
  | none => exact Nat.le_refl _
  | some k => have := (fst_s e).1; show k + 1 ≤ m; omega
theorem g269 {z : Nat} {M : aM} {p : Nat → Bool} {N : Nat} (hN : N ≤ 1000) : f269 z (nI (s1 (N + 1) (fst p N))) (nI N) M = some (some (.inl (oI (su (fst p N)))), M) := by
  unfold f269
  cases e : fst p N with
  | none =>
    simp only [s1, su]
    simp (disch := omega) only [n_0, n_1, n_2, n_3, n_4, n_5, n_6, n_7, n_8, n_9, n_10, n_12, n_13, n_16, n_30, n_60, n_61, n_86, n_99, n_100, n_200, n_201, n_1023, n_65535, n_10000, n_1000000, ↓q_m1, ↓q_m2, ↓q_m3, ↓q_m4, ↓q_m5, ↓q_m6, ↓q_m7, ↓q_m8, ↓q_m1000, ↓q_m100000, q_add, q_addm, q_inB, q_cl, q_le, q_lt, q_eq, q_eqm, q_meq, q_mltT, q_ltm, q_lem, q_mleT, if_true, if_false, if_pos, if_neg, Nat.reduceAdd, Nat.reduceMul, Nat.add_zero, Nat.zero_add, Nat.one_mul, not_true_eq_false, not_false_eq_true, u_row, u_self, u_ne, cb_bi, cb_bv, cb_bl]
    rfl
  | some k =>
    have := (fst_s e).1
    simp only [s1, su]
    simp (disch := omega) only [n_0, n_1, n_2, n_3, n_4, n_5, n_6, n_7, n_8, n_9, n_10, n_12, n_13, n_16, n_30, n_60, n_61, n_86, n_99, n_100, n_200, n_201, n_1023, n_65535, n_10000, n_1000000, ↓q_m1, ↓q_m2, ↓q_m3, ↓q_m4, ↓q_m5, ↓q_m6, ↓q_m7, ↓q_m8, ↓q_m1000, ↓q_m100000, q_add, q_addm, q_inB, q_cl, q_le, q_lt, q_eq, q_eqm, q_meq, q_mltT, q_ltm, q_lem, q_mleT, if_true, if_false, if_pos, if_neg, Nat.reduceAdd, Nat.reduceMul, Nat.add_zero, Nat.zero_add, Nat.one_mul, not_true_eq_false, not_false_eq_true, u_row, u_self, u_ne, cb_bi, cb_bv, cb_bl]
    rfl
theorem P_gate {z : Nat} (hz : 2000 ≤ z) {M : aM} {W : cW} (h : RW M W) (x1 x2 : Int32) : PR (f119 z x1 x2 M) (f270 z x1 x2) := by
  have hN0 := h.n0
  have hN3 := h.n3
  by_cases o0 : okN (W 0 3) x1
  · obtain ⟨c, hc, rfl⟩ := o0
    by_cases o1 : okY W x2
    · obtain ⟨h7, y, hy, rfl⟩ := o1
      have hy2 : y ≤ W 0 0 := Nat.le_of_lt_succ hy
      obtain ⟨M1, e1, e2⟩ := c_least hz h.w h.c (r := 33 + (1 + y)) (s := tY W y) (c := c) (most := 200) (fun t ht => h.row hy2 ht) (by unfold tS; omega) (h.rb hy2) (by omega) (by omega)
      refine PR.q h (v := oI (su (fst (hmB W (tY W y) c) 200))) (M1 := M1) ?_ (kR.ofT e2) (fun M2 h1 => ?_)
      · simp only [f119, k8t h.c h.w hc, k11t h.c h.w h7 hy2, cb_bi, i1f, i1n]
        simp (disch := omega) only [n_0, n_1, n_2, n_3, n_4, n_5, n_6, n_7, n_8, n_9, n_10, n_12, n_13, n_16, n_30, n_60, n_61, n_86, n_99, n_100, n_200, n_201, n_1023, n_65535, n_10000, n_1000000, ↓q_m1, ↓q_m2, ↓q_m3, ↓q_m4, ↓q_m5, ↓q_m6, ↓q_m7, ↓q_m8, ↓q_m1000, ↓q_m100000, q_add, q_addm, q_inB, q_cl, q_le, q_lt, q_eq, q_eqm, q_meq, q_mltT, q_ltm, q_lem, q_mleT, if_true, if_false, if_pos, if_neg, Nat.reduceAdd, Nat.reduceMul, Nat.add_zero, Nat.zero_add, Nat.one_mul, not_true_eq_false, not_false_eq_true, u_row, u_self, u_ne, cb_bi, cb_bv, cb_bl, e1]
      · obtain ⟨M3, e, k, r, R⟩ := m_YF hz h1 h7 hy2
        obtain ⟨M4, b1, b2⟩ := m_gate hz (y := y) (c := c) (s := tY W y) r.1 h1.w (by omega) (fun t ht => R.1 y hy t ht) (h1.rb hy2) r.2.1 hc
        refine ⟨M4, ?_, k.trans (kR.ofQ b2)⟩
        simp only [f270, e, k182t r.1 h1.w hc, cb_bi, i1f]
        simp only [n_0, n_200, b1, cb_bi, g269 (N := 200) (by omega)]
    · refine PR.s h (v := -2) (by simp only [f119, k8t h.c h.w hc, k11f h.c h.w o1, cb_bi, i1f, i0n]) (fun M1 h1 => ?_)
      obtain ⟨M2, e, k⟩ := m_Yf hz h1 o1
      exact ⟨M2, by simp only [f270, e, cb_bi, i0f], k⟩
  · refine PR.s h (v := -2) (by simp only [f119, k8f h.c h.w o0, cb_bi, i0f]) (fun M1 h1 => ?_)
    by_cases o1 : okY W x2
    · obtain ⟨h7, y, hy, rfl⟩ := o1
      obtain ⟨M2, e, k, r, R⟩ := m_Yt hz h1 h7 (Nat.le_of_lt_succ hy)
      exact ⟨M2, by simp only [f270, e, k182f r h1.w o0, cb_bi, i1f, i0f], k⟩
    · obtain ⟨M2, e, k⟩ := m_Yf hz h1 o1
      exact ⟨M2, by simp only [f270, e, cb_bi, i0f], k⟩
theorem P_bursts {z : Nat} (hz : 2000 ≤ z) {M : aM} {W : cW} (h : RW M W) (x1 x2 : Int32) : PR (f121 z x1 x2 M) (f271 z x1 x2) := by
  have hN0 := h.n0
  have hN3 := h.n3
  by_cases o0 : okN (W 0 3) x1
  · obtain ⟨c, hc, rfl⟩ := o0
    by_cases o1 : okY W x2
    · obtain ⟨h7, y, hy, rfl⟩ := o1
      have hy2 : y ≤ W 0 0 := Nat.le_of_lt_succ hy
      obtain ⟨M1, hI, e1⟩ := leM (fun n k M' => f121_27 z n (nI c) (nI y) (nI (k + 1)) M') 200 (buB W (tY W y) c) (fun k M' => some (some (.inl (nI (k + 1))), M')) (fun M' => some (some (.inl mI), M')) (fun M' => Fx tS M M') (by
        intro n k M' hk hI
        have hC' := h.c.fx hI (fun a q => by unfold tS at q; omega)
        obtain ⟨M1, e1, e2, e3, e4, e5⟩ := c_try hz h.w hC' (r := 33 + (1 + y)) (s := tY W y) (c := c) (n0 := k + 1) (by rw [hI.2 _ (by unfold tS; omega)]; exact fun t ht => h.row hy2 ht) (h.rb hy2) (by omega) (by omega)
        have hlo := (qd_lo h.w (W 0 1) c (k + 1) (tY W y)).1
        refine ⟨M1, hI.trans e2, ?_⟩
        rw [f121_27]
        by_cases h2 : 0 < (qd W (W 0 1) c (k + 1) (tY W y)).2.1.2.2.1
        · have ep : buB W (tY W y) c k = true := by simp [buB, h2]
          simp (disch := omega) only [n_0, n_1, n_2, n_3, n_4, n_5, n_6, n_7, n_8, n_9, n_10, n_12, n_13, n_16, n_30, n_60, n_61, n_86, n_99, n_100, n_200, n_201, n_1023, n_65535, n_10000, n_1000000, ↓q_m1, ↓q_m2, ↓q_m3, ↓q_m4, ↓q_m5, ↓q_m6, ↓q_m7, ↓q_m8, ↓q_m1000, ↓q_m100000, q_add, q_addm, q_inB, q_cl, q_le, q_lt, q_eq, q_eqm, q_meq, q_mltT, q_ltm, q_lem, q_mleT, if_true, if_false, if_pos, if_neg, Nat.reduceAdd, Nat.reduceMul, Nat.add_zero, Nat.zero_add, Nat.one_mul, not_true_eq_false, not_false_eq_true, u_row, u_self, u_ne, cb_bi, cb_bv, cb_bl, e1, k_br, e4, ep]
        · have ep : buB W (tY W y) c k = false := by simp [buB, h2]
          simp (disch := omega) only [n_0, n_1, n_2, n_3, n_4, n_5, n_6, n_7, n_8, n_9, n_10, n_12, n_13, n_16, n_30, n_60, n_61, n_86, n_99, n_100, n_200, n_201, n_1023, n_65535, n_10000, n_1000000, ↓q_m1, ↓q_m2, ↓q_m3, ↓q_m4, ↓q_m5, ↓q_m6, ↓q_m7, ↓q_m8, ↓q_m1000, ↓q_m100000, q_add, q_addm, q_inB, q_cl, q_le, q_lt, q_eq, q_eqm, q_meq, q_mltT, q_ltm, q_lem, q_mleT, if_true, if_false, if_pos, if_neg, Nat.reduceAdd, Nat.reduceMul, Nat.add_zero, Nat.zero_add, Nat.one_mul, not_true_eq_false, not_false_eq_true, u_row, u_self, u_ne, cb_bi, cb_bv, cb_bl, e1, k_br, e4, ep, Bool.false_eq_true]) (by
        intro n M' hI
        refine ⟨M', hI, ?_⟩
        rw [f121_27]
        simp (disch := omega) only [n_0, n_1, n_2, n_3, n_4, n_5, n_6, n_7, n_8, n_9, n_10, n_12, n_13, n_16, n_30, n_60, n_61, n_86, n_99, n_100, n_200, n_201, n_1023, n_65535, n_10000, n_1000000, ↓q_m1, ↓q_m2, ↓q_m3, ↓q_m4, ↓q_m5, ↓q_m6, ↓q_m7, ↓q_m8, ↓q_m1000, ↓q_m100000, q_add, q_addm, q_inB, q_cl, q_le, q_lt, q_eq, q_eqm, q_meq, q_mltT, q_ltm, q_lem, q_mleT, if_true, if_false, if_pos, if_neg, Nat.reduceAdd, Nat.reduceMul, Nat.add_zero, Nat.zero_add, Nat.one_mul, not_true_eq_false, not_false_eq_true, u_row, u_self, u_ne, cb_bi, cb_bv, cb_bl]) z M (by omega) Fx.id0
      refine PR.q h (v := oI (su (fst (buB W (tY W y) c) 200))) (M1 := M1) ?_ (kR.ofT hI) (fun M2 h1 => ?_)
      · simp only [f121, k8t h.c h.w hc, k11t h.c h.w h7 hy2, cb_bi, i1f, i1n]
        refine Eq.trans e1 ?_
        cases fst (buB W (tY W y) c) 200 <;> rfl
      · obtain ⟨M3, e, k, r, R⟩ := m_YF hz h1 h7 hy2
        obtain ⟨M4, b1, b2⟩ := m_burst hz (y := y) (c := c) (s := tY W y) r.1 h1.w (by omega) (fun t ht => R.1 y hy t ht) (h1.rb hy2) r.2.1 hc
        refine ⟨M4, ?_, k.trans (kR.ofQ b2)⟩
        simp only [f271, e, k182t r.1 h1.w hc, cb_bi, i1f]
        simp only [n_1, n_200, b1, cb_bi, g269 (N := 200) (by omega)]
    · refine PR.s h (v := -2) (by simp only [f121, k8t h.c h.w hc, k11f h.c h.w o1, cb_bi, i1f, i0n]) (fun M1 h1 => ?_)
      obtain ⟨M2, e, k⟩ := m_Yf hz h1 o1
      exact ⟨M2, by simp only [f271, e, cb_bi, i0f], k⟩
  · refine PR.s h (v := -2) (by simp only [f121, k8f h.c h.w o0, cb_bi, i0f]) (fun M1 h1 => ?_)
    by_cases o1 : okY W x2
    · obtain ⟨h7, y, hy, rfl⟩ := o1
      obtain ⟨M2, e, k, r, R⟩ := m_Yt hz h1 h7 (Nat.le_of_lt_succ hy)
      exact ⟨M2, by simp only [f271, e, k182f r h1.w o0, cb_bi, i1f, i0f], k⟩
    · obtain ⟨M2, e, k⟩ := m_Yf hz h1 o1
      exact ⟨M2, by simp only [f271, e, cb_bi, i0f], k⟩
/-! soft -/
def gtV (W : cW) (s : Nat → Nat) (c : Nat) : Nat := s1 201 (fst (hmB W s c) 200)
def sfS (W : cW) (s : Nat → Nat) : Nat → Option Nat × Nat
  | 0 => (none, 201)
  | c + 1 => if gtV W s c < (sfS W s c).2 then (some c, gtV W s c) else sfS W s c
theorem gtV_1 (W : cW) (s : Nat → Nat) (c : Nat) : 1 ≤ gtV W s c ∧ gtV W s c ≤ 201 := by
  unfold gtV
  refine ⟨?_, s1_le (by omega)⟩
  cases fst (hmB W s c) 200 with
  | none => show 1 ≤ 201; omega
  | some k => show 1 ≤ k + 1; omega
theorem sfS_2 (W : cW) (s : Nat → Nat) : ∀ c, 1 ≤ (sfS W s c).2 ∧ (sfS W s c).2 ≤ 201
  | 0 => by show 1 ≤ 201 ∧ 201 ≤ 201; omega
  | c + 1 => by
    have ih := sfS_2 W s c
    have hg := gtV_1 W s c
    unfold sfS
    generalize gtV W s c = g at *
    split
    · exact hg
    · exact ih
theorem P_soft {z : Nat} (hz : 2000 ≤ z) {M : aM} {W : cW} (h : RW M W) (x1 : Int32) : PR (f120 z x1 M) (f272 z x1) := by
  have hN0 := h.n0
  have hN3 := h.n3
  by_cases o1 : okY W x1
  · obtain ⟨h7, y, hy, rfl⟩ := o1
    have hy2 : y ≤ W 0 0 := Nat.le_of_lt_succ hy
    obtain ⟨n1, M1, e1, hI⟩ := lr0 (fun n k M' => f120_23 z n (nI y) (oI (sfS W (tY W y) k).1) (nI (sfS W (tY W y) k).2) (nI k) M') (W 0 3) (fun k M' => Fx tS M M') z M (by omega) Fx.id0 (by
      intro n k M' hk hI
      have hC' := h.c.fx hI (fun a q => by unfold tS at q; omega)
      have h2 := sfS_2 W (tY W y) k
      have hg := gtV_1 W (tY W y) k
      obtain ⟨M1, e1, e2⟩ := c_least hz h.w hC' (r := 33 + (1 + y)) (s := tY W y) (c := k) (most := (sfS W (tY W y) k).2 - 1) (by rw [hI.2 _ (by unfold tS; omega)]; exact fun t ht => h.row hy2 ht) (by unfold tS; omega) (h.rb hy2) (by omega) (by omega)
      have hcut := fst_cut (hmB W (tY W y) k) (show (sfS W (tY W y) k).2 - 1 ≤ 200 by omega)
      rw [f120_23]
      simp (disch := omega) only [n_0, n_1, n_2, n_3, n_4, n_5, n_6, n_7, n_8, n_9, n_10, n_12, n_13, n_16, n_30, n_60, n_61, n_86, n_99, n_100, n_200, n_201, n_1023, n_65535, n_10000, n_1000000, ↓q_m1, ↓q_m2, ↓q_m3, ↓q_m4, ↓q_m5, ↓q_m6, ↓q_m7, ↓q_m8, ↓q_m1000, ↓q_m100000, q_add, q_addm, q_inB, q_cl, q_le, q_lt, q_eq, q_eqm, q_meq, q_mltT, q_ltm, q_lem, q_mleT, if_true, if_false, if_pos, if_neg, Nat.reduceAdd, Nat.reduceMul, Nat.add_zero, Nat.zero_add, Nat.one_mul, not_true_eq_false, not_false_eq_true, u_row, u_self, u_ne, cb_bi, cb_bv, cb_bl, hC'.i4, q_sub, e1]
      refine ⟨M1, ?_, hI.trans e2⟩
      cases e9 : fst (hmB W (tY W y) k) 200 with
      | none =>
        rw [e9] at hcut
        have eg : gtV W (tY W y) k = 201 := by unfold gtV; rw [e9]; rfl
        have es : sfS W (tY W y) (k + 1) = sfS W (tY W y) k := if_neg (by omega)
        rw [hcut, es]
        simp only [su, oI_n, if_true]
      | some j =>
        rw [e9] at hcut
        have hj := (fst_s e9).1
        have eg : gtV W (tY W y) k = j + 1 := by unfold gtV; rw [e9]; rfl
        by_cases q : j < (sfS W (tY W y) k).2 - 1
        · have es : sfS W (tY W y) (k + 1) = (some k, j + 1) := by
            rw [← eg]
            exact if_pos (by omega)
          simp only [if_pos q] at hcut
          rw [hcut, es]
          simp only [su]
          simp (disch := omega) only [n_0, n_1, n_2, n_3, n_4, n_5, n_6, n_7, n_8, n_9, n_10, n_12, n_13, n_16, n_30, n_60, n_61, n_86, n_99, n_100, n_200, n_201, n_1023, n_65535, n_10000, n_1000000, ↓q_m1, ↓q_m2, ↓q_m3, ↓q_m4, ↓q_m5, ↓q_m6, ↓q_m7, ↓q_m8, ↓q_m1000, ↓q_m100000, q_add, q_addm, q_inB, q_cl, q_le, q_lt, q_eq, q_eqm, q_meq, q_mltT, q_ltm, q_lem, q_mleT, if_true, if_false, if_pos, if_neg, Nat.reduceAdd, Nat.reduceMul, Nat.add_zero, Nat.zero_add, Nat.one_mul, not_true_eq_false, not_false_eq_true, u_row, u_self, u_ne, cb_bi, cb_bv, cb_bl, oI_s]
        · have es : sfS W (tY W y) (k + 1) = sfS W (tY W y) k := if_neg (by omega)
          simp only [if_neg q] at hcut
          rw [hcut, es]
          simp only [su, oI_n, if_true])
    refine PR.q h (v := oI (sfS W (tY W y) (W 0 3)).1) (M1 := M1) ?_ (kR.ofT hI) (fun M2 h1 => ?_)
    · have hC' := h.c.fx hI (fun a q => by unfold tS at q; omega)
      simp only [f120, k11t h.c h.w h7 hy2, cb_bi, i1n]
      refine Eq.trans e1 ?_
      rw [f120_23]
      simp (disch := omega) only [n_0, n_1, n_2, n_3, n_4, n_5, n_6, n_7, n_8, n_9, n_10, n_12, n_13, n_16, n_30, n_60, n_61, n_86, n_99, n_100, n_200, n_201, n_1023, n_65535, n_10000, n_1000000, ↓q_m1, ↓q_m2, ↓q_m3, ↓q_m4, ↓q_m5, ↓q_m6, ↓q_m7, ↓q_m8, ↓q_m1000, ↓q_m100000, q_add, q_addm, q_inB, q_cl, q_le, q_lt, q_eq, q_eqm, q_meq, q_mltT, q_ltm, q_lem, q_mleT, if_true, if_false, if_pos, if_neg, Nat.reduceAdd, Nat.reduceMul, Nat.add_zero, Nat.zero_add, Nat.one_mul, not_true_eq_false, not_false_eq_true, u_row, u_self, u_ne, cb_bi, cb_bv, cb_bl, hC'.i4]
    · obtain ⟨M3, e, k, r, R⟩ := m_YF hz h1 h7 hy2
      obtain ⟨n2, M4, e2, hK⟩ := lr0 (fun n k M' => f272_20 z n (nI y) (oI (sfS W (tY W y) k).1) (nI (sfS W (tY W y) k).2) (nI k) M') (W 0 3) (fun k M' => kQ M3 M') z M3 (by omega) kQ.id0 (by
        intro n k M' hk hI
        have h2 := sfS_2 W (tY W y) k
        have hg := gtV_1 W (tY W y) k
        have r' : rM (M'.1 206) W := by rw [hI.r206]; exact r.1
        obtain ⟨M5, b1, b2⟩ := m_gate hz (M := M') (y := y) (c := k) (s := tY W y) r' h1.w (by omega) (by rw [hI.r (by unfold kS; omega)]; exact fun t ht => R.1 y hy t ht) (h1.rb hy2) (by rw [hI.2 16 (by omega)]; exact r.2.1) hk
        refine ⟨M5, ?_, hI.trans b2⟩
        have eg : s1 201 (fst (hmB W (tY W y) k) 200) = gtV W (tY W y) k := rfl
        rw [eg] at b1
        rw [f272_20, g177 r', cb_bi]
        by_cases q : gtV W (tY W y) k < (sfS W (tY W y) k).2
        · have es : sfS W (tY W y) (k + 1) = (some k, gtV W (tY W y) k) := if_pos q
          rw [es]
          simp (disch := omega) only [n_0, n_1, n_2, n_3, n_4, n_5, n_6, n_7, n_8, n_9, n_10, n_12, n_13, n_16, n_30, n_60, n_61, n_86, n_99, n_100, n_200, n_201, n_1023, n_65535, n_10000, n_1000000, ↓q_m1, ↓q_m2, ↓q_m3, ↓q_m4, ↓q_m5, ↓q_m6, ↓q_m7, ↓q_m8, ↓q_m1000, ↓q_m100000, q_add, q_addm, q_inB, q_cl, q_le, q_lt, q_eq, q_eqm, q_meq, q_mltT, q_ltm, q_lem, q_mleT, if_true, if_false, if_pos, if_neg, Nat.reduceAdd, Nat.reduceMul, Nat.add_zero, Nat.zero_add, Nat.one_mul, not_true_eq_false, not_false_eq_true, u_row, u_self, u_ne, cb_bi, cb_bv, cb_bl, b1, oI_s]
        · have es : sfS W (tY W y) (k + 1) = sfS W (tY W y) k := if_neg q
          rw [es]
          simp (disch := omega) only [n_0, n_1, n_2, n_3, n_4, n_5, n_6, n_7, n_8, n_9, n_10, n_12, n_13, n_16, n_30, n_60, n_61, n_86, n_99, n_100, n_200, n_201, n_1023, n_65535, n_10000, n_1000000, ↓q_m1, ↓q_m2, ↓q_m3, ↓q_m4, ↓q_m5, ↓q_m6, ↓q_m7, ↓q_m8, ↓q_m1000, ↓q_m100000, q_add, q_addm, q_inB, q_cl, q_le, q_lt, q_eq, q_eqm, q_meq, q_mltT, q_ltm, q_lem, q_mleT, if_true, if_false, if_pos, if_neg, Nat.reduceAdd, Nat.reduceMul, Nat.add_zero, Nat.zero_add, Nat.one_mul, not_true_eq_false, not_false_eq_true, u_row, u_self, u_ne, cb_bi, cb_bv, cb_bl, b1])
      refine ⟨M4, ?_, k.trans (kR.ofQ hK)⟩
      simp only [f272, e, cb_bi, i1n]
      refine Eq.trans e2 ?_
      have r' : rM (M4.1 206) W := by rw [hK.r206]; exact r.1
      rw [f272_20, g177 r', cb_bi]
      simp (disch := omega) only [n_0, n_1, n_2, n_3, n_4, n_5, n_6, n_7, n_8, n_9, n_10, n_12, n_13, n_16, n_30, n_60, n_61, n_86, n_99, n_100, n_200, n_201, n_1023, n_65535, n_10000, n_1000000, ↓q_m1, ↓q_m2, ↓q_m3, ↓q_m4, ↓q_m5, ↓q_m6, ↓q_m7, ↓q_m8, ↓q_m1000, ↓q_m100000, q_add, q_addm, q_inB, q_cl, q_le, q_lt, q_eq, q_eqm, q_meq, q_mltT, q_ltm, q_lem, q_mleT, if_true, if_false, if_pos, if_neg, Nat.reduceAdd, Nat.reduceMul, Nat.add_zero, Nat.zero_add, Nat.one_mul, not_true_eq_false, not_false_eq_true, u_row, u_self, u_ne, cb_bi, cb_bv, cb_bl]
  · refine PR.s h (v := -2) (by simp only [f120, k11f h.c h.w o1, cb_bi, i0n]) (fun M1 h1 => ?_)
    obtain ⟨M2, e, k⟩ := m_Yf hz h1 o1
    exact ⟨M2, by simp only [f272, e, cb_bi, i0n], k⟩
