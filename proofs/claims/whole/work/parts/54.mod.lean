/-! ===== the model's world in memory, its pulls ===== -/
def aE (W : cW) (i : Nat) : Nat := (if W 7 i = 0 then 1000000 else 0) + (10000 * W 8 i + 100 * W 9 i + W 10 i)
def rM (g : Nat → Int32) (W : cW) : Prop :=
  (g 0 = nI (W 0 0) ∧ g 1 = nI (W 0 1) ∧ g 2 = nI (W 0 2) ∧ g 3 = nI (W 0 3) ∧ g 4 = nI (W 0 4) ∧ g 5 = nI (W 0 5) ∧ g 6 = nI (W 0 6) ∧ g 7 = nI (W 0 7))
  ∧ (∀ t, t < W 0 4 → g (8 + 3 * t) = nI (W 1 t) ∧ g (8 + 3 * t + 1) = hI (W 2 t) ∧ g (8 + 3 * t + 2) = nI (W 3 t))
  ∧ (∀ q, q < W 0 5 → g (56 + 3 * q) = nI (W 4 q) ∧ g (56 + 3 * q + 1) = nI (W 5 q) ∧ g (56 + 3 * q + 2) = nI (W 6 q))
  ∧ (∀ i, i < W 0 6 → g (86 + i) = nI (aE W i))
theorem g176 {z : Nat} {M : aM} {W : cW} (h : rM (M.1 206) W) : f176 z M = some (some (.inl (nI (W 0 0))), M) := by
  unfold f176; simp (disch := omega) only [n_0, n_1, n_2, n_3, n_4, n_5, n_6, n_7, n_8, n_9, n_10, n_12, n_13, n_16, n_30, n_60, n_61, n_86, n_99, n_100, n_200, n_201, n_1023, n_65535, n_10000, n_1000000, ↓q_m1, q_add, q_addm, q_inB, q_cl, q_le, q_lt, q_eq, q_eqm, q_meq, q_mltT, q_ltm, q_lem, q_mleT, if_true, if_false, if_pos, if_neg, Nat.reduceAdd, Nat.reduceMul, Nat.add_zero, Nat.zero_add, not_true_eq_false, not_false_eq_true, u_row, u_self, u_ne, cb_bi, cb_bv, cb_bl, h.1.1]
theorem g177 {z : Nat} {M : aM} {W : cW} (h : rM (M.1 206) W) : f177 z M = some (some (.inl (nI (W 0 3))), M) := by
  unfold f177; simp (disch := omega) only [n_0, n_1, n_2, n_3, n_4, n_5, n_6, n_7, n_8, n_9, n_10, n_12, n_13, n_16, n_30, n_60, n_61, n_86, n_99, n_100, n_200, n_201, n_1023, n_65535, n_10000, n_1000000, ↓q_m1, q_add, q_addm, q_inB, q_cl, q_le, q_lt, q_eq, q_eqm, q_meq, q_mltT, q_ltm, q_lem, q_mleT, if_true, if_false, if_pos, if_neg, Nat.reduceAdd, Nat.reduceMul, Nat.add_zero, Nat.zero_add, not_true_eq_false, not_false_eq_true, u_row, u_self, u_ne, cb_bi, cb_bv, cb_bl, h.1.2.2.2.1]
theorem g178 {z : Nat} {M : aM} {W : cW} (h : rM (M.1 206) W) : f178 z M = some (some (.inl (nI (W 0 4))), M) := by
  unfold f178; simp (disch := omega) only [n_0, n_1, n_2, n_3, n_4, n_5, n_6, n_7, n_8, n_9, n_10, n_12, n_13, n_16, n_30, n_60, n_61, n_86, n_99, n_100, n_200, n_201, n_1023, n_65535, n_10000, n_1000000, ↓q_m1, q_add, q_addm, q_inB, q_cl, q_le, q_lt, q_eq, q_eqm, q_meq, q_mltT, q_ltm, q_lem, q_mleT, if_true, if_false, if_pos, if_neg, Nat.reduceAdd, Nat.reduceMul, Nat.add_zero, Nat.zero_add, not_true_eq_false, not_false_eq_true, u_row, u_self, u_ne, cb_bi, cb_bv, cb_bl, n_4, h.1.2.2.2.2.1]
theorem g179 {z : Nat} {M : aM} {W : cW} (h : rM (M.1 206) W) : f179 z M = some (some (.inl (nI (W 0 5))), M) := by
  unfold f179; simp (disch := omega) only [n_0, n_1, n_2, n_3, n_4, n_5, n_6, n_7, n_8, n_9, n_10, n_12, n_13, n_16, n_30, n_60, n_61, n_86, n_99, n_100, n_200, n_201, n_1023, n_65535, n_10000, n_1000000, ↓q_m1, q_add, q_addm, q_inB, q_cl, q_le, q_lt, q_eq, q_eqm, q_meq, q_mltT, q_ltm, q_lem, q_mleT, if_true, if_false, if_pos, if_neg, Nat.reduceAdd, Nat.reduceMul, Nat.add_zero, Nat.zero_add, not_true_eq_false, not_false_eq_true, u_row, u_self, u_ne, cb_bi, cb_bv, cb_bl, h.1.2.2.2.2.2.1]
theorem g175 {z : Nat} {M : aM} {W : cW} (h : rM (M.1 206) W) (hW : wf W) : f175 z M = some (some (.inl (nI (if 0 < W 0 7 then 1 else 0))), M) := by
  have h7 : W 0 7 ≤ 800 := hW.2.2.2.2.2.2.2.1
  unfold f175; simp (disch := omega) only [n_0, n_1, n_2, n_3, n_4, n_5, n_6, n_7, n_8, n_9, n_10, n_12, n_13, n_16, n_30, n_60, n_61, n_86, n_99, n_100, n_200, n_201, n_1023, n_65535, n_10000, n_1000000, ↓q_m1, q_add, q_addm, q_inB, q_cl, q_le, q_lt, q_eq, q_eqm, q_meq, q_mltT, q_ltm, q_lem, q_mleT, if_true, if_false, if_pos, if_neg, Nat.reduceAdd, Nat.reduceMul, Nat.add_zero, Nat.zero_add, not_true_eq_false, not_false_eq_true, u_row, u_self, u_ne, cb_bi, cb_bv, cb_bl, n_7, h.1.2.2.2.2.2.2.2]
  split
  · rw [if_neg (by omega)]; rfl
  · rw [if_pos (by omega)]; rfl
theorem g185 {z : Nat} {M : aM} {W : cW} (h : rM (M.1 206) W) (hW : wf W) {t : Nat} (ht : t < W 0 4) : f185 z (nI t) M = some (some (.inl (nI (W 1 t))), M) := by
  have hT : W 0 4 ≤ 16 := hW.2.2.2.2.1
  unfold f185; simp (disch := omega) only [n_0, n_1, n_2, n_3, n_4, n_5, n_6, n_7, n_8, n_9, n_10, n_12, n_13, n_16, n_30, n_60, n_61, n_86, n_99, n_100, n_200, n_201, n_1023, n_65535, n_10000, n_1000000, ↓q_m1, q_add, q_addm, q_inB, q_cl, q_le, q_lt, q_eq, q_eqm, q_meq, q_mltT, q_ltm, q_lem, q_mleT, if_true, if_false, if_pos, if_neg, Nat.reduceAdd, Nat.reduceMul, Nat.add_zero, Nat.zero_add, not_true_eq_false, not_false_eq_true, u_row, u_self, u_ne, cb_bi, cb_bv, cb_bl, q_mul, (h.2.1 t ht).1]
theorem g186 {z : Nat} {M : aM} {W : cW} (h : rM (M.1 206) W) (hW : wf W) {t : Nat} (ht : t < W 0 4) : f186 z (nI t) M = some (some (.inl (hI (W 2 t))), M) := by
  have hT : W 0 4 ≤ 16 := hW.2.2.2.2.1
  unfold f186; simp (disch := omega) only [n_0, n_1, n_2, n_3, n_4, n_5, n_6, n_7, n_8, n_9, n_10, n_12, n_13, n_16, n_30, n_60, n_61, n_86, n_99, n_100, n_200, n_201, n_1023, n_65535, n_10000, n_1000000, ↓q_m1, q_add, q_addm, q_inB, q_cl, q_le, q_lt, q_eq, q_eqm, q_meq, q_mltT, q_ltm, q_lem, q_mleT, if_true, if_false, if_pos, if_neg, Nat.reduceAdd, Nat.reduceMul, Nat.add_zero, Nat.zero_add, not_true_eq_false, not_false_eq_true, u_row, u_self, u_ne, cb_bi, cb_bv, cb_bl, q_mul, (h.2.1 t ht).2.1]
theorem g172 (z : Nat) (M : aM) {x k : Nat} (hx : x < 2147483648) (hk : k < 32) : f172 z (nI x) (nI k) M = some (some (.inl (nI (bt x k))), M) := by
  unfold f172; simp only [n_31, n_1]; rw [q_bt hx hk]
def b01 (p : Prop) [Decidable p] : Nat := if p then 1 else 0
theorem g212 {z : Nat} {M : aM} {W : cW} (h : rM (M.1 206) W) (hW : wf W) {s : Nat → Nat} (hs : ∀ t, t < W 0 4 → M.1 213 t = nI (s t)) (hb : ∀ t, s t ≤ 1000) {t c : Nat} (ht : t < W 0 4) (hc : c < 8) : f212 z (nI t) (nI c) M = some (some (.inl (nI (if W 1 t = c ∧ 0 < s t then 1 else 0))), M) := by
  have hT : W 0 4 ≤ 16 := hW.2.2.2.2.1
  have hC : W 0 3 ≤ 8 := hW.2.2.2.1
  have h1 := (hW.2.2.2.2.2.2.2.2.1 t ht).1
  have hbt := hb t
  unfold f212
  rw [g185 h hW ht, cb_bi]
  simp (disch := omega) only [n_0, n_1, n_2, n_3, n_4, n_5, n_6, n_7, n_8, n_9, n_10, n_12, n_13, n_16, n_30, n_60, n_61, n_86, n_99, n_100, n_200, n_201, n_1023, n_65535, n_10000, n_1000000, ↓q_m1, q_add, q_addm, q_inB, q_cl, q_le, q_lt, q_eq, q_eqm, q_meq, q_mltT, q_ltm, q_lem, q_mleT, if_true, if_false, if_pos, if_neg, Nat.reduceAdd, Nat.reduceMul, Nat.add_zero, Nat.zero_add, not_true_eq_false, not_false_eq_true, u_row, u_self, u_ne, cb_bi, cb_bv, cb_bl, hs]
  by_cases e : W 1 t = c
  · simp (disch := omega) only [n_0, n_1, n_2, n_3, n_4, n_5, n_6, n_7, n_8, n_9, n_10, n_12, n_13, n_16, n_30, n_60, n_61, n_86, n_99, n_100, n_200, n_201, n_1023, n_65535, n_10000, n_1000000, ↓q_m1, q_add, q_addm, q_inB, q_cl, q_le, q_lt, q_eq, q_eqm, q_meq, q_mltT, q_ltm, q_lem, q_mleT, if_true, if_false, if_pos, if_neg, Nat.reduceAdd, Nat.reduceMul, Nat.add_zero, Nat.zero_add, not_true_eq_false, not_false_eq_true, u_row, u_self, u_ne, cb_bi, cb_bv, cb_bl, e]
    by_cases e2 : 0 < s t
    · simp (disch := omega) only [n_0, n_1, n_2, n_3, n_4, n_5, n_6, n_7, n_8, n_9, n_10, n_12, n_13, n_16, n_30, n_60, n_61, n_86, n_99, n_100, n_200, n_201, n_1023, n_65535, n_10000, n_1000000, ↓q_m1, q_add, q_addm, q_inB, q_cl, q_le, q_lt, q_eq, q_eqm, q_meq, q_mltT, q_ltm, q_lem, q_mleT, if_true, if_false, if_pos, if_neg, Nat.reduceAdd, Nat.reduceMul, Nat.add_zero, Nat.zero_add, not_true_eq_false, not_false_eq_true, u_row, u_self, u_ne, cb_bi, cb_bv, cb_bl, e2, and_self]; rfl
    · simp (disch := omega) only [n_0, n_1, n_2, n_3, n_4, n_5, n_6, n_7, n_8, n_9, n_10, n_12, n_13, n_16, n_30, n_60, n_61, n_86, n_99, n_100, n_200, n_201, n_1023, n_65535, n_10000, n_1000000, ↓q_m1, q_add, q_addm, q_inB, q_cl, q_le, q_lt, q_eq, q_eqm, q_meq, q_mltT, q_ltm, q_lem, q_mleT, if_true, if_false, if_pos, if_neg, Nat.reduceAdd, Nat.reduceMul, Nat.add_zero, Nat.zero_add, not_true_eq_false, not_false_eq_true, u_row, u_self, u_ne, cb_bi, cb_bv, cb_bl, e2, and_false]; rfl
  · simp (disch := omega) only [n_0, n_1, n_2, n_3, n_4, n_5, n_6, n_7, n_8, n_9, n_10, n_12, n_13, n_16, n_30, n_60, n_61, n_86, n_99, n_100, n_200, n_201, n_1023, n_65535, n_10000, n_1000000, ↓q_m1, q_add, q_addm, q_inB, q_cl, q_le, q_lt, q_eq, q_eqm, q_meq, q_mltT, q_ltm, q_lem, q_mleT, if_true, if_false, if_pos, if_neg, Nat.reduceAdd, Nat.reduceMul, Nat.add_zero, Nat.zero_add, not_true_eq_false, not_false_eq_true, u_row, u_self, u_ne, cb_bi, cb_bv, cb_bl, e, false_and]; rfl
/-- strongestOf -/
theorem m_strongest {z : Nat} (hz : 2000 ≤ z) {M : aM} {W : cW} (h : rM (M.1 206) W) (hW : wf W) {s : Nat → Nat} (hs : ∀ t, t < W 0 4 → M.1 213 t = nI (s t)) (hb : ∀ t, s t ≤ 1000) {c : Nat} (hc : c < 8) {but : Nat} {xb : Int32} (hx : (but = 99 ∧ xb = mI) ∨ (but < 16 ∧ xb = nI but)) :
    f213 z (nI c) xb M = some (some (.inl (oI (mx s but (thr W c)))), M) := by
  have hT : W 0 4 ≤ 16 := hW.2.2.2.2.1
  unfold f213
  simp only [↓q_m1, n_0]
  refine lk0 (L := fun n k (_ : Unit) => f213_5 z n (nI c) xb (oI (mx s but (thT W c k))) (nI k) M) (N := W 0 4) (Inv := fun _ _ => True) (P := fun o => o = some (some (.inl (oI (mx s but (thr W c)))), M)) z () (by omega) trivial ?_ ?_
  · intro n k _ hk _
    have hxk : (nI k = xb) = (k = but) := by
      rcases hx with ⟨e1, e2⟩ | ⟨e1, e2⟩
      · rw [e2, e1, q_eqm (by omega)]
        exact (eq_false (by omega)).symm
      · rw [e2, q_eq (by omega) (by omega)]
    have hbk := hb k
    have hmm : ∀ b, mx s but (thT W c k) = some b → b < W 0 4 := fun b e => by have := (thT_lt (mx_mem e).1).1; omega
    have e1 : mx s but (thT W c (k + 1)) = if W 1 k = c then stb s but (mx s but (thT W c k)) k else mx s but (thT W c k) := by
      rw [thT_succ]
      split
      · rw [mx_app]
      · rw [List.append_nil]
    simp only [e1]
    rw [f213_5, g178 h, cb_bi]
    simp (disch := omega) only [n_0, n_1, n_2, n_3, n_4, n_5, n_6, n_7, n_8, n_9, n_10, n_12, n_13, n_16, n_30, n_60, n_61, n_86, n_99, n_100, n_200, n_201, n_1023, n_65535, n_10000, n_1000000, ↓q_m1, q_add, q_addm, q_inB, q_cl, q_le, q_lt, q_eq, q_eqm, q_meq, q_mltT, q_ltm, q_lem, q_mleT, if_true, if_false, if_pos, if_neg, Nat.reduceAdd, Nat.reduceMul, Nat.add_zero, Nat.zero_add, not_true_eq_false, not_false_eq_true, u_row, u_self, u_ne, cb_bi, cb_bv, cb_bl, hxk]
    by_cases hkb : k = but
    · have e2 : stb s but (mx s but (thT W c k)) k = mx s but (thT W c k) := if_pos hkb
      simp only [if_pos hkb, e2, ite_self]
      exact Lst.go (s' := ()) trivial
    · simp only [if_neg hkb, stb]
      rw [g212 h hW hs hb hk hc, cb_bi]
      by_cases h1 : W 1 k = c ∧ 0 < s k
      · simp only [if_pos h1, if_pos h1.1, stp, if_pos h1.2]
        cases ho : mx s but (thT W c k) with
        | none =>
          simp (disch := omega) only [n_0, n_1, n_2, n_3, n_4, n_5, n_6, n_7, n_8, n_9, n_10, n_12, n_13, n_16, n_30, n_60, n_61, n_86, n_99, n_100, n_200, n_201, n_1023, n_65535, n_10000, n_1000000, ↓q_m1, q_add, q_addm, q_inB, q_cl, q_le, q_lt, q_eq, q_eqm, q_meq, q_mltT, q_ltm, q_lem, q_mleT, if_true, if_false, if_pos, if_neg, Nat.reduceAdd, Nat.reduceMul, Nat.add_zero, Nat.zero_add, not_true_eq_false, not_false_eq_true, u_row, u_self, u_ne, cb_bi, cb_bv, cb_bl, oI_n, oI_s]
          exact Lst.go (s' := ()) trivial
        | some b =>
          have := hmm b ho
          have := hb b
          simp (disch := omega) only [n_0, n_1, n_2, n_3, n_4, n_5, n_6, n_7, n_8, n_9, n_10, n_12, n_13, n_16, n_30, n_60, n_61, n_86, n_99, n_100, n_200, n_201, n_1023, n_65535, n_10000, n_1000000, ↓q_m1, q_add, q_addm, q_inB, q_cl, q_le, q_lt, q_eq, q_eqm, q_meq, q_mltT, q_ltm, q_lem, q_mleT, if_true, if_false, if_pos, if_neg, Nat.reduceAdd, Nat.reduceMul, Nat.add_zero, Nat.zero_add, not_true_eq_false, not_false_eq_true, u_row, u_self, u_ne, cb_bi, cb_bv, cb_bl, oI_n, oI_s, hs]
          by_cases h2 : s b < s k
          · simp (disch := omega) only [n_0, n_1, n_2, n_3, n_4, n_5, n_6, n_7, n_8, n_9, n_10, n_12, n_13, n_16, n_30, n_60, n_61, n_86, n_99, n_100, n_200, n_201, n_1023, n_65535, n_10000, n_1000000, ↓q_m1, q_add, q_addm, q_inB, q_cl, q_le, q_lt, q_eq, q_eqm, q_meq, q_mltT, q_ltm, q_lem, q_mleT, if_true, if_false, if_pos, if_neg, Nat.reduceAdd, Nat.reduceMul, Nat.add_zero, Nat.zero_add, not_true_eq_false, not_false_eq_true, u_row, u_self, u_ne, cb_bi, cb_bv, cb_bl, oI_s]
            exact Lst.go (s' := ()) trivial
          · simp (disch := omega) only [n_0, n_1, n_2, n_3, n_4, n_5, n_6, n_7, n_8, n_9, n_10, n_12, n_13, n_16, n_30, n_60, n_61, n_86, n_99, n_100, n_200, n_201, n_1023, n_65535, n_10000, n_1000000, ↓q_m1, q_add, q_addm, q_inB, q_cl, q_le, q_lt, q_eq, q_eqm, q_meq, q_mltT, q_ltm, q_lem, q_mleT, if_true, if_false, if_pos, if_neg, Nat.reduceAdd, Nat.reduceMul, Nat.add_zero, Nat.zero_add, not_true_eq_false, not_false_eq_true, u_row, u_self, u_ne, cb_bi, cb_bv, cb_bl, oI_s]
            exact Lst.go (s' := ()) trivial
      · simp (disch := omega) only [if_neg h1, n_0, n_1, n_2, n_3, n_4, n_5, n_6, n_7, n_8, n_9, n_10, n_12, n_13, n_16, n_30, n_60, n_61, n_86, n_99, n_100, n_200, n_201, n_1023, n_65535, n_10000, n_1000000, ↓q_m1, q_add, q_addm, q_inB, q_cl, q_le, q_lt, q_eq, q_eqm, q_meq, q_mltT, q_ltm, q_lem, q_mleT, if_true, if_false, if_pos, if_neg, Nat.reduceAdd, Nat.reduceMul, Nat.add_zero, Nat.zero_add, not_true_eq_false, not_false_eq_true, u_row, u_self, u_ne, cb_bi, cb_bv, cb_bl]
        have e3 : (if W 1 k = c then stp s (mx s but (thT W c k)) k else mx s but (thT W c k)) = mx s but (thT W c k) := by
          split
          · rename_i hq
            exact if_neg (fun q => h1 ⟨hq, q⟩)
          · rfl
        simp only [e3]
        exact Lst.go (s' := ()) trivial
  · intro n _ _
    rw [f213_5, g178 h, cb_bi]
    simp (disch := omega) only [n_0, n_1, n_2, n_3, n_4, n_5, n_6, n_7, n_8, n_9, n_10, n_12, n_13, n_16, n_30, n_60, n_61, n_86, n_99, n_100, n_200, n_201, n_1023, n_65535, n_10000, n_1000000, ↓q_m1, q_add, q_addm, q_inB, q_cl, q_le, q_lt, q_eq, q_eqm, q_meq, q_mltT, q_ltm, q_lem, q_mleT, if_true, if_false, if_pos, if_neg, Nat.reduceAdd, Nat.reduceMul, Nat.add_zero, Nat.zero_add, not_true_eq_false, not_false_eq_true, u_row, u_self, u_ne, cb_bi, cb_bv, cb_bl]
    rfl
