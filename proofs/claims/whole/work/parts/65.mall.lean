/-- goAll -/
theorem m_goAll {z : Nat} (hz : 2000 ≤ z) {M : aM} {W : cW} (h : rM (M.1 206) W) (hW : wf W) {law : Nat} {s : Nat → Nat} {gn hd : Nat → Bool} (hl : M.1 205 16 = nI law) (hl3 : law ≤ 3) (hg : hB (M.1 205 17) 16 (nt gn)) (hh : hB (M.1 205 18) 10 (nt hd)) (hb : bd s) (hs : ∀ t, t < W 0 4 → M.1 212 t = nI (s t)) :
    ∃ M', f224 z M = some (none, M') ∧ kG M M' ∧ zR M' W (lv W law gn hd s) (W 0 0 + 1) := by
  have hT : W 0 4 ≤ 16 := hW.2.2.2.2.1
  have hQ : W 0 5 ≤ 10 := hW.2.2.2.2.2.1
  have hY : W 0 0 ≤ 12 := hW.1
  have hb0 : bd (fun t => if gn t = true then 0 else s t) := fun t => by
    show (if gn t = true then 0 else s t) ≤ 1000
    split
    · omega
    · exact hb t
  unfold f224 lv
  simp only [n_0]
  obtain ⟨n1, M1, e1, hF1, hA1, hB1, hC1⟩ := lr0 (fun n k M' => f224_2 z n (nI k) M') 16 (fun k M' => Fx (fun a => a = 213 ∨ a = 216 ∨ a = 217) M M' ∧ (∀ t, t < k → t < W 0 4 → M'.1 213 t = nI (if gn t = true then 0 else s t)) ∧ (∀ t, t < k → M'.1 216 t = nI 0) ∧ (∀ t, t < k → M'.1 217 t = nI 0)) z M (by omega) ⟨Fx.id0, fun t ht => by omega, fun t ht => by omega, fun t ht => by omega⟩ (by
    intro n k M' hk hI
    obtain ⟨hF, hA, hB', hC⟩ := hI
    have h' : rM (M'.1 206) W := by rw [hF.2 206 (by omega)]; exact h
    have hg' : hB (M'.1 205 17) 16 (nt gn) := by rw [hF.2 205 (by omega)]; exact hg
    have hgk := hg' k hk
    have fin : ∀ (M2 : aM) (v : Int32), M2 = (am_u (am_u (am_u M'.1 213 k v) 216 k (nI 0)) 217 k (nI 0), M'.2) → (k < W 0 4 → v = nI (if gn k = true then 0 else s k)) → Fx (fun a => a = 213 ∨ a = 216 ∨ a = 217) M M2 ∧ (∀ t, t < k + 1 → t < W 0 4 → M2.1 213 t = nI (if gn t = true then 0 else s t)) ∧ (∀ t, t < k + 1 → M2.1 216 t = nI 0) ∧ (∀ t, t < k + 1 → M2.1 217 t = nI 0) := by
      intro M2 v e hv
      rw [e]
      refine ⟨Fx.w (Fx.w (Fx.w hF (.inl rfl)) (.inr (.inl rfl))) (.inr (.inr rfl)), ?_, ?_, ?_⟩
      · intro t ht ht2
        simp (disch := omega) only [u_row, u_at]
        by_cases q : t = k
        · rw [if_pos q, q]; exact hv (by omega)
        · rw [if_neg q]; exact hA t (by omega) ht2
      · intro t ht
        simp (disch := omega) only [u_row, u_at]
        by_cases q : t = k
        · rw [if_pos q]
        · rw [if_neg q]; exact hB' t (by omega)
      · intro t ht
        simp (disch := omega) only [u_row, u_at]
        by_cases q : t = k
        · rw [if_pos q]
        · rw [if_neg q]; exact hC t (by omega)
    rw [f224_2]
    by_cases h2 : gn k = true
    · simp only [nt, h2, Bool.not_true, Bool.false_eq_true, if_false] at hgk
      simp (disch := omega) only [n_0, n_1, n_2, n_3, n_4, n_5, n_6, n_7, n_8, n_9, n_10, n_12, n_13, n_16, n_30, n_60, n_61, n_86, n_99, n_100, n_200, n_201, n_1023, n_65535, n_10000, n_1000000, ↓q_m1, q_add, q_addm, q_inB, q_cl, q_le, q_lt, q_eq, q_eqm, q_meq, q_mltT, q_ltm, q_lem, q_mleT, if_true, if_false, if_pos, if_neg, Nat.reduceAdd, Nat.reduceMul, Nat.add_zero, Nat.zero_add, Nat.one_mul, not_true_eq_false, not_false_eq_true, u_row, u_self, u_ne, cb_bi, cb_bv, cb_bl, g172x, hgk]
      exact ⟨_, rfl, fin _ _ rfl (fun _ => by rw [if_pos h2])⟩
    · have h3 : gn k = false := by simpa using h2
      simp only [nt, h3, Bool.not_false, if_true] at hgk
      simp (disch := omega) only [n_0, n_1, n_2, n_3, n_4, n_5, n_6, n_7, n_8, n_9, n_10, n_12, n_13, n_16, n_30, n_60, n_61, n_86, n_99, n_100, n_200, n_201, n_1023, n_65535, n_10000, n_1000000, ↓q_m1, q_add, q_addm, q_inB, q_cl, q_le, q_lt, q_eq, q_eqm, q_meq, q_mltT, q_ltm, q_lem, q_mleT, if_true, if_false, if_pos, if_neg, Nat.reduceAdd, Nat.reduceMul, Nat.add_zero, Nat.zero_add, Nat.one_mul, not_true_eq_false, not_false_eq_true, u_row, u_self, u_ne, cb_bi, cb_bv, cb_bl, g172x, hgk, g178 h']
      by_cases h4 : k < W 0 4
      · have hs' : M'.1 212 k = nI (s k) := by rw [hF.2 212 (by omega)]; exact hs k h4
        simp (disch := omega) only [n_0, n_1, n_2, n_3, n_4, n_5, n_6, n_7, n_8, n_9, n_10, n_12, n_13, n_16, n_30, n_60, n_61, n_86, n_99, n_100, n_200, n_201, n_1023, n_65535, n_10000, n_1000000, ↓q_m1, q_add, q_addm, q_inB, q_cl, q_le, q_lt, q_eq, q_eqm, q_meq, q_mltT, q_ltm, q_lem, q_mleT, if_true, if_false, if_pos, if_neg, Nat.reduceAdd, Nat.reduceMul, Nat.add_zero, Nat.zero_add, Nat.one_mul, not_true_eq_false, not_false_eq_true, u_row, u_self, u_ne, cb_bi, cb_bv, cb_bl, hs']
        exact ⟨_, rfl, fin _ _ rfl (fun _ => by rw [if_neg h2])⟩
      · simp (disch := omega) only [n_0, n_1, n_2, n_3, n_4, n_5, n_6, n_7, n_8, n_9, n_10, n_12, n_13, n_16, n_30, n_60, n_61, n_86, n_99, n_100, n_200, n_201, n_1023, n_65535, n_10000, n_1000000, ↓q_m1, q_add, q_addm, q_inB, q_cl, q_le, q_lt, q_eq, q_eqm, q_meq, q_mltT, q_ltm, q_lem, q_mleT, if_true, if_false, if_pos, if_neg, Nat.reduceAdd, Nat.reduceMul, Nat.add_zero, Nat.zero_add, Nat.one_mul, not_true_eq_false, not_false_eq_true, u_row, u_self, u_ne, cb_bi, cb_bv, cb_bl]
        exact ⟨_, rfl, fin _ _ rfl (fun q => absurd q h4)⟩)
  rw [e1, f224_2]
  simp (disch := omega) only [n_0, n_1, n_2, n_3, n_4, n_5, n_6, n_7, n_8, n_9, n_10, n_12, n_13, n_16, n_30, n_60, n_61, n_86, n_99, n_100, n_200, n_201, n_1023, n_65535, n_10000, n_1000000, ↓q_m1, q_add, q_addm, q_inB, q_cl, q_le, q_lt, q_eq, q_eqm, q_meq, q_mltT, q_ltm, q_lem, q_mleT, if_true, if_false, if_pos, if_neg, Nat.reduceAdd, Nat.reduceMul, Nat.add_zero, Nat.zero_add, Nat.one_mul, not_true_eq_false, not_false_eq_true, u_row, u_self, u_ne, cb_bi, cb_bv, cb_bl]
  have hA1' : ∀ t, t < 16 → t < W 0 4 → M1.1 213 t = nI ((fun t => if gn t = true then 0 else s t) t) := hA1
  clear hA1
  generalize (fun t => if gn t = true then 0 else s t) = s0 at *
  obtain ⟨n2, M2, e2, hF2, hA2, hB2⟩ := lr0 (fun n k M' => f224_66 z n (nI k) M') 10 (fun k M' => Fx (fun a => a = 220 ∨ a = 221) M1 M' ∧ (∀ t, t < k → M'.1 220 t = nI 0) ∧ (∀ t, t < k → M'.1 221 t = nI 0)) z M1 (by omega) ⟨Fx.id0, fun t ht => by omega, fun t ht => by omega⟩ (by
    intro n k M' hk hI
    obtain ⟨hF, hA, hB'⟩ := hI
    rw [f224_66]
    simp (disch := omega) only [n_0, n_1, n_2, n_3, n_4, n_5, n_6, n_7, n_8, n_9, n_10, n_12, n_13, n_16, n_30, n_60, n_61, n_86, n_99, n_100, n_200, n_201, n_1023, n_65535, n_10000, n_1000000, ↓q_m1, q_add, q_addm, q_inB, q_cl, q_le, q_lt, q_eq, q_eqm, q_meq, q_mltT, q_ltm, q_lem, q_mleT, if_true, if_false, if_pos, if_neg, Nat.reduceAdd, Nat.reduceMul, Nat.add_zero, Nat.zero_add, Nat.one_mul, not_true_eq_false, not_false_eq_true, u_row, u_self, u_ne, cb_bi, cb_bv, cb_bl]
    refine ⟨_, rfl, Fx.w (Fx.w hF (.inl rfl)) (.inr rfl), ?_, ?_⟩
    · intro t ht
      simp (disch := omega) only [u_row, u_at]
      by_cases q : t = k
      · rw [if_pos q]
      · rw [if_neg q]; exact hA t (by omega)
    · intro t ht
      simp (disch := omega) only [u_row, u_at]
      by_cases q : t = k
      · rw [if_pos q]
      · rw [if_neg q]; exact hB' t (by omega))
  rw [e2, f224_66]
  simp (disch := omega) only [n_0, n_1, n_2, n_3, n_4, n_5, n_6, n_7, n_8, n_9, n_10, n_12, n_13, n_16, n_30, n_60, n_61, n_86, n_99, n_100, n_200, n_201, n_1023, n_65535, n_10000, n_1000000, ↓q_m1, q_add, q_addm, q_inB, q_cl, q_le, q_lt, q_eq, q_eqm, q_meq, q_mltT, q_ltm, q_lem, q_mleT, if_true, if_false, if_pos, if_neg, Nat.reduceAdd, Nat.reduceMul, Nat.add_zero, Nat.zero_add, Nat.one_mul, not_true_eq_false, not_false_eq_true, u_row, u_self, u_ne, cb_bi, cb_bv, cb_bl]
  have hK2 : kG M M2 := (kG.of (hF1.mono (fun a q => by omega))).trans (kG.of (hF2.mono (fun a q => by omega)))
  have hS2 : zSt M2 W 0 (yV W law gn hd s0 0) := by
    refine ⟨?_, ?_, ?_, ?_, ?_, ?_⟩
    · intro t ht
      rw [hF2.2 213 (by omega)]; exact hA1' t (by omega) ht
    · intro y hy; omega
    · intro q hq
      exact ⟨hA2 q (by omega), hB2 q (by omega)⟩
    · intro q hq h30
      exact absurd rfl h30
    · intro t ht
      rw [hF2.2 217 (by omega)]; exact hC1 t (by omega)
    · intro t ht
      rw [hF2.2 216 (by omega)]; exact hB1 t (by omega)
  /- the copy of a year's strengths -/
  have cp : ∀ (K : Int32 → aM → Option aR) (k : Nat) (M' : aM), k ≤ 12 → zSt M' W k (yV W law gn hd s0 k) → ∃ n' M'', f224_104 z K z (nI k) (nI 0) M' = f224_104 z K (n' + 1) (nI k) (nI 16) M'' ∧ Fx (fun a => a = 218) M' M'' ∧ zSt M'' W (k + 1) (yV W law gn hd s0 k) := by
    intro K k M' hk hS
    obtain ⟨n3, M3, e3, hF3, hI3, hJ3⟩ := lr0 (fun n j M' => f224_104 z K n (nI k) (nI j) M') 16 (fun j M'' => Fx (fun a => a = 218) M' M'' ∧ (∀ t, t < j → M''.1 218 (16 * k + t) = M'.1 213 t) ∧ (∀ i, i < 16 * k → M''.1 218 i = M'.1 218 i)) z M' (by omega) ⟨Fx.id0, fun t ht => by omega, fun _ _ => rfl⟩ (by
      intro n j M'' hj hI
      obtain ⟨hF, hA, hB'⟩ := hI
      have h213 : M''.1 213 = M'.1 213 := hF.2 213 (by decide)
      rw [f224_104]
      simp (disch := omega) only [n_0, n_1, n_2, n_3, n_4, n_5, n_6, n_7, n_8, n_9, n_10, n_12, n_13, n_16, n_30, n_60, n_61, n_86, n_99, n_100, n_200, n_201, n_1023, n_65535, n_10000, n_1000000, ↓q_m1, q_add, q_addm, q_inB, q_cl, q_le, q_lt, q_eq, q_eqm, q_meq, q_mltT, q_ltm, q_lem, q_mleT, if_true, if_false, if_pos, if_neg, Nat.reduceAdd, Nat.reduceMul, Nat.add_zero, Nat.zero_add, Nat.one_mul, not_true_eq_false, not_false_eq_true, u_row, u_self, u_ne, cb_bi, cb_bv, cb_bl, q_mul, h213]
      refine ⟨_, rfl, Fx.w hF rfl, ?_, ?_⟩
      · intro t ht
        simp only [u_at]
        by_cases e : t = j
        · rw [if_pos (by omega), e]
        · rw [if_neg (by omega)]
          exact hA t (by omega)
      · intro i hi
        simp only [u_at]
        rw [if_neg (by omega)]
        exact hB' i hi)
    refine ⟨n3, M3, e3, hF3, ?_, ?_, ?_, ?_, ?_, ?_⟩
    · rw [hF3.2 213 (by decide)]; exact hS.1
    · intro y hy t ht
      by_cases e : y = k
      · rw [e, hI3 t (by omega), yV_row]
        exact hS.1 t ht
      · rw [hJ3 _ (by omega)]
        exact hS.2.1 y (by omega) t ht
    · rw [hF3.2 220 (by decide), hF3.2 221 (by decide)]; exact hS.2.2.1
    · rw [hF3.2 222 (by decide), hF3.2 223 (by decide), hF3.2 219 (by decide)]; exact hS.2.2.2.1
    · rw [hF3.2 217 (by decide)]; exact hS.2.2.2.2.1
    · rw [hF3.2 216 (by decide)]; exact hS.2.2.2.2.2
  obtain ⟨n4, M4, e4, ⟨hK4, hS4⟩, hn4⟩ := lr (fun n k M' => f224_94 z n (nI k) M') (W 0 0) (fun k M' => kG M M' ∧ zSt M' W k (yV W law gn hd s0 k)) (by
    intro n k M' hk hI
    obtain ⟨hK, hS⟩ := hI
    have h' : rM (M'.1 206) W := by rw [hK.r206]; exact h
    obtain ⟨n5, M5, e5, hF5, hS5⟩ := cp (f224_94 z n) k M' (by omega) hS
    have hK5 : kG M M5 := hK.trans (kG.of (hF5.mono (fun a q => by omega)))
    have h5 : rM (M5.1 206) W := by rw [hK5.r206]; exact h
    obtain ⟨M6, e6, hK6, hS6⟩ := m_year hz (y := k) (gn := gn) (hd := hd) h5 hW (by rw [hK5.2 16 (by omega)]; exact hl) hl3 (by rw [hK5.2 17 (by omega)]; exact hg) (by rw [hK5.2 18 (by omega)]; exact hh) (yV_b hW hb0 k) (by omega) (by omega) hS5
    rw [f224_94, g176 h', cb_bi]
    simp (disch := omega) only [n_0, n_1, n_2, n_3, n_4, n_5, n_6, n_7, n_8, n_9, n_10, n_12, n_13, n_16, n_30, n_60, n_61, n_86, n_99, n_100, n_200, n_201, n_1023, n_65535, n_10000, n_1000000, ↓q_m1, q_add, q_addm, q_inB, q_cl, q_le, q_lt, q_eq, q_eqm, q_meq, q_mltT, q_ltm, q_lem, q_mleT, if_true, if_false, if_pos, if_neg, Nat.reduceAdd, Nat.reduceMul, Nat.add_zero, Nat.zero_add, Nat.one_mul, not_true_eq_false, not_false_eq_true, u_row, u_self, u_ne, cb_bi, cb_bv, cb_bl]
    rw [e5, f224_104]
    simp (disch := omega) only [n_0, n_1, n_2, n_3, n_4, n_5, n_6, n_7, n_8, n_9, n_10, n_12, n_13, n_16, n_30, n_60, n_61, n_86, n_99, n_100, n_200, n_201, n_1023, n_65535, n_10000, n_1000000, ↓q_m1, q_add, q_addm, q_inB, q_cl, q_le, q_lt, q_eq, q_eqm, q_meq, q_mltT, q_ltm, q_lem, q_mleT, if_true, if_false, if_pos, if_neg, Nat.reduceAdd, Nat.reduceMul, Nat.add_zero, Nat.zero_add, Nat.one_mul, not_true_eq_false, not_false_eq_true, u_row, u_self, u_ne, cb_bi, cb_bv, cb_bl, g176 h5, e6]
    refine ⟨M6, rfl, hK5.trans hK6, ?_, ?_, ?_, ?_, ?_, ?_⟩
    · exact hS6.1
    · intro y hy
      show ∀ t, t < W 0 4 → M6.1 218 (16 * y + t) = nI (yu _ (k + 1) _ y t)
      rw [yu_n _ _ (by omega)]
      exact hS6.2.1 y hy
    · intro q hq
      show M6.1 220 q = nI (yu _ (k + 1) _ 30 q) ∧ M6.1 221 q = nI (yu _ (k + 1) _ 31 q)
      rw [yu_n _ _ (by omega), yu_n _ _ (by omega)]
      exact hS6.2.2.1 q hq
    · intro q hq
      show yu _ (k + 1) _ 30 q ≠ 0 → M6.1 222 q = nI (yu _ (k + 1) _ 32 q) ∧ M6.1 223 q = nI (yu _ (k + 1) _ 33 q) ∧ ∀ t, t < W 0 4 → M6.1 219 (16 * q + t) = nI (yu _ (k + 1) _ (20 + q) t)
      rw [yu_n _ _ (by omega), yu_n _ _ (by omega), yu_n _ _ (by omega), yu_n _ _ (by omega)]
      exact hS6.2.2.2.1 q hq
    · show ∀ t, t < W 0 4 → M6.1 217 t = nI (yu _ (k + 1) _ 34 t)
      rw [yu_n _ _ (by omega)]
      exact hS6.2.2.2.2.1
    · show ∀ t, t < W 0 4 → M6.1 216 t = nI (yu _ (k + 1) _ 35 t)
      rw [yu_n _ _ (by omega)]
      exact hS6.2.2.2.2.2) (W 0 0) 0 z M2 (by omega) (by omega) ⟨hK2, hS2⟩
  have h4 : rM (M4.1 206) W := by rw [hK4.r206]; exact h
  obtain ⟨n5, M5, e5, hF5, hS5⟩ := cp (f224_94 z n4) (W 0 0) M4 (by omega) hS4
  have hK5 : kG M M5 := hK4.trans (kG.of (hF5.mono (fun a q => by omega)))
  have h5 : rM (M5.1 206) W := by rw [hK5.r206]; exact h
  refine ⟨M5, ?_, hK5, hS5.2⟩
  refine Eq.trans e4 ?_
  rw [f224_94, g176 h4, cb_bi]
  simp (disch := omega) only [n_0, n_1, n_2, n_3, n_4, n_5, n_6, n_7, n_8, n_9, n_10, n_12, n_13, n_16, n_30, n_60, n_61, n_86, n_99, n_100, n_200, n_201, n_1023, n_65535, n_10000, n_1000000, ↓q_m1, q_add, q_addm, q_inB, q_cl, q_le, q_lt, q_eq, q_eqm, q_meq, q_mltT, q_ltm, q_lem, q_mleT, if_true, if_false, if_pos, if_neg, Nat.reduceAdd, Nat.reduceMul, Nat.add_zero, Nat.zero_add, Nat.one_mul, not_true_eq_false, not_false_eq_true, u_row, u_self, u_ne, cb_bi, cb_bv, cb_bl]
  rw [e5, f224_104]
  simp (disch := omega) only [n_0, n_1, n_2, n_3, n_4, n_5, n_6, n_7, n_8, n_9, n_10, n_12, n_13, n_16, n_30, n_60, n_61, n_86, n_99, n_100, n_200, n_201, n_1023, n_65535, n_10000, n_1000000, ↓q_m1, q_add, q_addm, q_inB, q_cl, q_le, q_lt, q_eq, q_eqm, q_meq, q_mltT, q_ltm, q_lem, q_mleT, if_true, if_false, if_pos, if_neg, Nat.reduceAdd, Nat.reduceMul, Nat.add_zero, Nat.zero_add, Nat.one_mul, not_true_eq_false, not_false_eq_true, u_row, u_self, u_ne, cb_bi, cb_bv, cb_bl, g176 h5]
  obtain ⟨n6, rfl⟩ : ∃ n', n4 = n' + 1 := ⟨n4 - 1, by omega⟩
  rw [f224_94, g176 h5, cb_bi]
  simp (disch := omega) only [n_0, n_1, n_2, n_3, n_4, n_5, n_6, n_7, n_8, n_9, n_10, n_12, n_13, n_16, n_30, n_60, n_61, n_86, n_99, n_100, n_200, n_201, n_1023, n_65535, n_10000, n_1000000, ↓q_m1, q_add, q_addm, q_inB, q_cl, q_le, q_lt, q_eq, q_eqm, q_meq, q_mltT, q_ltm, q_lem, q_mleT, if_true, if_false, if_pos, if_neg, Nat.reduceAdd, Nat.reduceMul, Nat.add_zero, Nat.zero_add, Nat.one_mul, not_true_eq_false, not_false_eq_true, u_row, u_self, u_ne, cb_bi, cb_bv, cb_bl]
/-- asItIs -/
theorem m_asIs {z : Nat} (hz : 2000 ≤ z) {M : aM} {W : cW} (h : rM (M.1 206) W) (hW : wf W) :
    ∃ M', f211 z M = some (none, M') ∧ Fx (fun a => a = 205 ∨ a = 212) M M' ∧ (∀ j, j < 16 ∨ 18 < j → M'.1 205 j = M.1 205 j) ∧ M'.1 205 16 = nI (W 0 1) ∧ M'.1 205 17 = nI 65535 ∧ M'.1 205 18 = nI 1023 ∧ (∀ t, t < W 0 4 → M'.1 212 t = nI (hT0 W t)) := by
  have hT : W 0 4 ≤ 16 := hW.2.2.2.2.1
  have h1 : M.1 206 1 = nI (W 0 1) := h.1.2.1
  unfold f211
  simp (disch := omega) only [n_0, n_1, n_2, n_3, n_4, n_5, n_6, n_7, n_8, n_9, n_10, n_12, n_13, n_16, n_30, n_60, n_61, n_86, n_99, n_100, n_200, n_201, n_1023, n_65535, n_10000, n_1000000, ↓q_m1, q_add, q_addm, q_inB, q_cl, q_le, q_lt, q_eq, q_eqm, q_meq, q_mltT, q_ltm, q_lem, q_mleT, if_true, if_false, if_pos, if_neg, Nat.reduceAdd, Nat.reduceMul, Nat.add_zero, Nat.zero_add, Nat.one_mul, not_true_eq_false, not_false_eq_true, u_row, u_self, u_ne, cb_bi, cb_bv, cb_bl, h1]
  generalize hM1 : ((am_u (am_u (am_u M.1 205 16 (nI (W 0 1))) 205 17 (nI 65535)) 205 18 (nI 1023), M.2) : aM) = M1
  have hF1 : Fx (fun a => a = 205 ∨ a = 212) M M1 := by
    rw [← hM1]
    exact Fx.w (Fx.w (Fx.w Fx.id0 (.inl rfl)) (.inl rfl)) (.inl rfl)
  have h206 : M1.1 206 = M.1 206 := hF1.2 206 (by omega)
  obtain ⟨n, M', e, hF, hI⟩ := lr0 (fun n k M' => f211_26 z n (nI k) M') 16 (fun k M' => Fx (fun a => a = 212) M1 M' ∧ (∀ t, t < k → t < W 0 4 → M'.1 212 t = nI (W 3 t))) z M1 (by omega) ⟨Fx.id0, fun t ht => by omega⟩ (by
    intro n k M' hk hI
    obtain ⟨hF, hI⟩ := hI
    have h206' : M'.1 206 = M.1 206 := by rw [hF.2 206 (by decide), h206]
    rw [f211_26]
    simp (disch := omega) only [n_0, n_1, n_2, n_3, n_4, n_5, n_6, n_7, n_8, n_9, n_10, n_12, n_13, n_16, n_30, n_60, n_61, n_86, n_99, n_100, n_200, n_201, n_1023, n_65535, n_10000, n_1000000, ↓q_m1, q_add, q_addm, q_inB, q_cl, q_le, q_lt, q_eq, q_eqm, q_meq, q_mltT, q_ltm, q_lem, q_mleT, if_true, if_false, if_pos, if_neg, Nat.reduceAdd, Nat.reduceMul, Nat.add_zero, Nat.zero_add, Nat.one_mul, not_true_eq_false, not_false_eq_true, u_row, u_self, u_ne, cb_bi, cb_bv, cb_bl, q_mul]
    refine ⟨_, rfl, Fx.w hF rfl, ?_⟩
    intro t ht ht2
    simp only [u_at]
    by_cases q : t = k
    · rw [if_pos q, h206', q]
      exact (h.2.1 k (by omega)).2.2
    · rw [if_neg q]; exact hI t (by omega) ht2)
  refine ⟨M', ?_, hF1.trans (hF.mono (fun a q => by omega)), ?_, ?_, ?_, ?_, ?_⟩
  · refine Eq.trans e ?_
    rw [f211_26]
    simp (disch := omega) only [n_0, n_1, n_2, n_3, n_4, n_5, n_6, n_7, n_8, n_9, n_10, n_12, n_13, n_16, n_30, n_60, n_61, n_86, n_99, n_100, n_200, n_201, n_1023, n_65535, n_10000, n_1000000, ↓q_m1, q_add, q_addm, q_inB, q_cl, q_le, q_lt, q_eq, q_eqm, q_meq, q_mltT, q_ltm, q_lem, q_mleT, if_true, if_false, if_pos, if_neg, Nat.reduceAdd, Nat.reduceMul, Nat.add_zero, Nat.zero_add, Nat.one_mul, not_true_eq_false, not_false_eq_true, u_row, u_self, u_ne, cb_bi, cb_bv, cb_bl]
  · intro j hj
    rw [hF.2 205 (by decide), ← hM1]
    simp (disch := omega) only [u_ne]
  · rw [hF.2 205 (by decide), ← hM1]
    simp (disch := omega) only [u_ne, u_self]
  · rw [hF.2 205 (by decide), ← hM1]
    simp (disch := omega) only [u_ne, u_self]
  · rw [hF.2 205 (by decide), ← hM1]
    simp (disch := omega) only [u_ne, u_self]
  · intro t ht
    rw [hI t (by omega) ht]
    unfold hT0
    rw [if_pos ht]
/-- all bits -/
theorem hB_all {x n : Nat} (hn : n ≤ 32) (hx : x < 2147483648) (h : ∀ k, k < n → bt x k = 1) : hB (nI x) n (nt nB) := fun k hk => by
  rw [q_bt hx (by omega), h k hk]
  rfl
theorem hB_65535 : hB (nI 65535) 16 (nt nB) := hB_all (by omega) (by omega) (by decide)
theorem hB_1023 : hB (nI 1023) 10 (nt nB) := hB_all (by omega) (by omega) (by decide)
/-- what was told, gone through -/
def tY (W : cW) : cY := lv W (W 0 1) nB nB (hT0 W)
def aF (a : Nat) : Prop := a = 205 ∨ 212 ≤ a ∧ a ≤ 223
def kA (M M' : aM) : Prop := Fx aF M M' ∧ ∀ j, j < 16 ∨ 25 < j → M'.1 205 j = M.1 205 j
theorem kA.id0 {M : aM} : kA M M := ⟨Fx.id0, fun _ _ => rfl⟩
theorem kA.trans {M M' M'' : aM} (h : kA M M') (h' : kA M' M'') : kA M M'' := ⟨h.1.trans h'.1, fun j a => (h'.2 j a).trans (h.2 j a)⟩
theorem kA.ofG {M M' : aM} (h : kG M M') : kA M M' := ⟨h.1.mono (fun a q => by unfold gF at q; unfold aF; omega), fun j q => h.2 j (by omega)⟩
theorem kA.r206 {M M' : aM} (h : kA M M') : M'.1 206 = M.1 206 := h.1.2 206 (by unfold aF; omega)
/-- asksCloth -/
theorem m_asks {z : Nat} (hz : 2000 ≤ z) {M : aM} {W : cW} (h : rM (M.1 206) W) (hW : wf W) :
    ∃ M', f225 z M = some (some (.inl (nI (if 0 < W 0 7 then 1 else 0))), M') ∧ kA M M' ∧ zR M' W (tY W) (W 0 0 + 1) := by
  obtain ⟨M1, a1, a2, a3, a4, a5, a6, a7⟩ := m_asIs hz h hW
  have h1 : rM (M1.1 206) W := by rw [a2.2 206 (by omega)]; exact h
  obtain ⟨M2, b1, b2, b3⟩ := m_goAll hz (law := W 0 1) (gn := nB) (hd := nB) (s := hT0 W) h1 hW a4 hW.2.1 (by rw [a5]; exact hB_65535) (by rw [a6]; exact hB_1023) (hT0_b hW) a7
  have h2 : rM (M2.1 206) W := by rw [b2.r206]; exact h1
  unfold f225
  rw [a1, cb_bv, b1, cb_bv, g175 h2 hW, cb_bi]
  refine ⟨M2, ?_, ⟨(a2.mono (fun a q => by unfold aF; omega)).trans (kA.ofG b2).1, fun j hj => by rw [b2.2 j (by omega)]; exact a3 j (by omega)⟩, b3⟩
  split <;> rfl
