/-! ===== the model: a pull, what tears, a whole quarrel ===== -/
theorem m_down {z : Nat} (hz : 2000 ≤ z) {W : cW} {s : Nat → Nat} {law n0 : Nat} (hW : wf W) (hb : ∀ t, s t ≤ 1000) (hl3 : law ≤ 3) (h200 : n0 ≤ 200) :
    ∀ (c : Nat) (n : Nat) (M : aM) (X : cX), c ≤ 8 → c < n → rM (M.1 206) W → (∀ t, t < W 0 4 → M.1 213 t = nI (s t)) → M.1 205 16 = nI law → mX M X → ix W s n0 c X →
    ∃ M', f218_66 z n (nI c + mI) M = some (none, M') ∧ mK M M' ∧ mX M' (pd W law s c X)
  | 0, n, M, X, hc, hn, h, hs, hl, hX, hi => by
    obtain ⟨n, rfl⟩ : ∃ n', n = n' + 1 := ⟨n - 1, by omega⟩
    refine ⟨M, ?_, mK.id0, hX⟩
    rw [show nI 0 + mI = mI by decide, f218_66]
    simp (disch := omega) only [n_0, n_1, n_2, n_3, n_4, n_5, n_6, n_7, n_8, n_9, n_10, n_12, n_13, n_16, n_30, n_60, n_61, n_86, n_99, n_100, n_200, n_201, n_1023, n_65535, n_10000, n_1000000, ↓q_m1, q_add, q_addm, q_inB, q_cl, q_le, q_lt, q_eq, q_eqm, q_meq, q_mltT, q_ltm, q_lem, q_mleT, if_true, if_false, if_pos, if_neg, Nat.reduceAdd, Nat.reduceMul, Nat.add_zero, Nat.zero_add, not_true_eq_false, not_false_eq_true, u_row, u_self, u_ne, cb_bi, cb_bv, cb_bl]
  | c + 1, n, M, X, hc, hn, h, hs, hl, hX, hi => by
    obtain ⟨n, rfl⟩ : ∃ n', n = n' + 1 := ⟨n - 1, by omega⟩
    obtain ⟨M1, d1, d2, d3⟩ := m_shareOut hz h hW hs hb (c := c) (by omega) hl hl3 hX hi h200
    rw [q_addm (by omega), Nat.add_sub_cancel, f218_66]
    simp (disch := omega) only [n_0, n_1, n_2, n_3, n_4, n_5, n_6, n_7, n_8, n_9, n_10, n_12, n_13, n_16, n_30, n_60, n_61, n_86, n_99, n_100, n_200, n_201, n_1023, n_65535, n_10000, n_1000000, ↓q_m1, q_add, q_addm, q_inB, q_cl, q_le, q_lt, q_eq, q_eqm, q_meq, q_mltT, q_ltm, q_lem, q_mleT, if_true, if_false, if_pos, if_neg, Nat.reduceAdd, Nat.reduceMul, Nat.add_zero, Nat.zero_add, not_true_eq_false, not_false_eq_true, u_row, u_self, u_ne, cb_bi, cb_bv, cb_bl, d1, -q_addm]
    obtain ⟨M', e1, e2, e3⟩ := m_down hz hW hb hl3 h200 c n M1 (dv W law s c X) (by omega) (by omega) (by rw [d2.r206]; exact h) (by rw [d2.r213]; exact hs) (by rw [d2.i16]; exact hl) d3 (dv_ix hW hi)
    exact ⟨M', e1, d2.trans e2, e3⟩
theorem m_pull {z : Nat} (hz : 2000 ≤ z) {M : aM} {W : cW} (h : rM (M.1 206) W) (hW : wf W) {s : Nat → Nat} (hs : ∀ t, t < W 0 4 → M.1 213 t = nI (s t)) (hb : ∀ t, s t ≤ 1000) {c law n0 : Nat} (hc : c < W 0 3) (hl : M.1 205 16 = nI law) (hl3 : law ≤ 3) (h200 : n0 ≤ 200) :
    ∃ M', f218 z (nI c) (nI n0) M = some (none, M') ∧ mK M M' ∧ mX M' (pl W law s c n0) := by
  have hC8 : W 0 3 ≤ 8 := hW.2.2.2.1
  unfold f218
  simp only [n_0]
  obtain ⟨n1, M1, e1, hF1, h1⟩ := lr0 (fun n k M' => f218_2 z n (nI c) (nI n0) (nI k) M') 16 (fun k M' => Fx (fun a => a = 214) M M' ∧ ∀ t, t < k → M'.1 214 t = nI 0) z M (by omega) ⟨Fx.id0, fun t ht => by omega⟩ (by
    intro n k M' hk hI
    refine ⟨(am_u M'.1 214 k (nI 0), M'.2), ?_, Fx.w hI.1 rfl, ?_⟩
    · rw [f218_2]
      simp (disch := omega) only [n_0, n_1, n_2, n_3, n_4, n_5, n_6, n_7, n_8, n_9, n_10, n_12, n_13, n_16, n_30, n_60, n_61, n_86, n_99, n_100, n_200, n_201, n_1023, n_65535, n_10000, n_1000000, ↓q_m1, q_add, q_addm, q_inB, q_cl, q_le, q_lt, q_eq, q_eqm, q_meq, q_mltT, q_ltm, q_lem, q_mleT, if_true, if_false, if_pos, if_neg, Nat.reduceAdd, Nat.reduceMul, Nat.add_zero, Nat.zero_add, not_true_eq_false, not_false_eq_true, u_row, u_self, u_ne, cb_bi, cb_bv, cb_bl]
    · intro t ht
      show am_u M'.1 214 k (nI 0) 214 t = nI 0
      rw [u_at]
      split
      · rfl
      · exact hI.2 t (by omega))
  rw [e1, f218_2]
  simp (disch := omega) only [n_0, n_1, n_2, n_3, n_4, n_5, n_6, n_7, n_8, n_9, n_10, n_12, n_13, n_16, n_30, n_60, n_61, n_86, n_99, n_100, n_200, n_201, n_1023, n_65535, n_10000, n_1000000, ↓q_m1, q_add, q_addm, q_inB, q_cl, q_le, q_lt, q_eq, q_eqm, q_meq, q_mltT, q_ltm, q_lem, q_mleT, if_true, if_false, if_pos, if_neg, Nat.reduceAdd, Nat.reduceMul, Nat.add_zero, Nat.zero_add, not_true_eq_false, not_false_eq_true, u_row, u_self, u_ne, cb_bi, cb_bv, cb_bl]
  obtain ⟨n2, M2, e2, hF2, h2⟩ := lr0 (fun n k M' => f218_23 z n (nI c) (nI n0) (nI k) M') 8 (fun k M' => Fx (fun a => a = 215) M1 M' ∧ ∀ t, t < k → M'.1 215 t = nI 0) z M1 (by omega) ⟨Fx.id0, fun t ht => by omega⟩ (by
    intro n k M' hk hI
    refine ⟨(am_u M'.1 215 k (nI 0), M'.2), ?_, Fx.w hI.1 rfl, ?_⟩
    · rw [f218_23]
      simp (disch := omega) only [n_0, n_1, n_2, n_3, n_4, n_5, n_6, n_7, n_8, n_9, n_10, n_12, n_13, n_16, n_30, n_60, n_61, n_86, n_99, n_100, n_200, n_201, n_1023, n_65535, n_10000, n_1000000, ↓q_m1, q_add, q_addm, q_inB, q_cl, q_le, q_lt, q_eq, q_eqm, q_meq, q_mltT, q_ltm, q_lem, q_mleT, if_true, if_false, if_pos, if_neg, Nat.reduceAdd, Nat.reduceMul, Nat.add_zero, Nat.zero_add, not_true_eq_false, not_false_eq_true, u_row, u_self, u_ne, cb_bi, cb_bv, cb_bl]
    · intro t ht
      show am_u M'.1 215 k (nI 0) 215 t = nI 0
      rw [u_at]
      split
      · rfl
      · exact hI.2 t (by omega))
  rw [e2, f218_23]
  simp (disch := omega) only [n_0, n_1, n_2, n_3, n_4, n_5, n_6, n_7, n_8, n_9, n_10, n_12, n_13, n_16, n_30, n_60, n_61, n_86, n_99, n_100, n_200, n_201, n_1023, n_65535, n_10000, n_1000000, ↓q_m1, q_add, q_addm, q_inB, q_cl, q_le, q_lt, q_eq, q_eqm, q_meq, q_mltT, q_ltm, q_lem, q_mleT, if_true, if_false, if_pos, if_neg, Nat.reduceAdd, Nat.reduceMul, Nat.add_zero, Nat.zero_add, not_true_eq_false, not_false_eq_true, u_row, u_self, u_ne, cb_bi, cb_bv, cb_bl]
  have hF3 : Fx mS M (am_u (am_u (am_u M2.1 205 22 (nI 0)) 205 23 (nI 0)) 215 c (nI n0), M2.2) := Fx.w (Fx.w (Fx.w ((hF1.mono (fun a q => .inr (.inl q))).trans (hF2.mono (fun a q => .inr (.inr q)))) (.inl rfl)) (.inl rfl)) (.inr (.inr rfl))
  have hK : mK M (am_u (am_u (am_u M2.1 205 22 (nI 0)) 205 23 (nI 0)) 215 c (nI n0), M2.2) := by
    refine ⟨hF3, fun j j1 j2 => ?_⟩
    simp (disch := omega) only [u_ne, u_row]
    rw [hF2.2 205 (by decide), hF1.2 205 (by decide)]
  have h' : rM (((am_u (am_u (am_u M2.1 205 22 (nI 0)) 205 23 (nI 0)) 215 c (nI n0), M2.2) : aM).1 206) W := by rw [hK.r206]; exact h
  rw [g177 h', cb_bi, show nI (W 0 3) - nI 1 = nI (W 0 3) + mI by rw [q_sub (by omega), q_addm (by omega)]]
  obtain ⟨M', a1, a2, a3⟩ := m_down hz hW hb hl3 h200 (W 0 3) z _ (cX0 c n0) hC8 (by omega) h' (by rw [hK.r213]; exact hs) (by rw [hK.i16]; exact hl) (by
    refine ⟨?_, ?_, ?_, ?_⟩
    · simp (disch := omega) only [u_row]
      rw [hF2.2 214 (by decide)]
      exact h1
    · simp (disch := omega) only [u_row]
      exact row_upg (g := fun _ => 0) (fun i hi => by simp (disch := omega) only [u_row]; exact h2 i hi)
    · simp (disch := omega) only [u_row, u_ne, u_self]
      rfl
    · simp (disch := omega) only [u_row, u_ne, u_self]
      rfl) (cX0_ix W s hc)
  rw [pd_hi W law s (W 0 3) hc] at a3
  exact ⟨M', a1, hK.trans a2, a3⟩
/-- tearNow -/
theorem m_tear {z : Nat} (hz : 2000 ≤ z) {M : aM} {W : cW} (h : rM (M.1 206) W) (hW : wf W) {s g : Nat → Nat} (hs : ∀ t, t < W 0 4 → M.1 213 t = nI (s t)) (hb : ∀ t, s t ≤ 1000) (hg : ∀ t, t < 16 → M.1 214 t = nI (g t)) (hgb : ∀ t, g t ≤ 1000) :
    ∃ M', f219 z M = some (some (.inl (nI (bN (tb s g) (W 0 4)))), M') ∧ Fx (fun a => a = 213) M M' ∧ (∀ t, t < W 0 4 → M'.1 213 t = nI (tr (W 0 4) s g t)) := by
  have hT : W 0 4 ≤ 16 := hW.2.2.2.2.1
  unfold f219
  simp only [n_0]
  obtain ⟨n1, e1⟩ := lf0 (fun n k => f219_4 z n (nI (bN (tb s g) k)) (nI k) M) (W 0 4) z (by omega) (by
    intro n k hk
    have hbk := hb k
    have hgk := hgb k
    rw [f219_4, g178 h, cb_bi]
    by_cases h1 : s k < g k
    · have hpk : tb s g k = true := by simp [tb, h1]
      rw [show bN (tb s g) (k + 1) = bN (tb s g) k ||| 2 ^ k by rw [bN_or1, if_pos hpk]]
      simp (disch := omega) only [n_0, n_1, n_2, n_3, n_4, n_5, n_6, n_7, n_8, n_9, n_10, n_12, n_13, n_16, n_30, n_60, n_61, n_86, n_99, n_100, n_200, n_201, n_1023, n_65535, n_10000, n_1000000, ↓q_m1, q_add, q_addm, q_inB, q_cl, q_le, q_lt, q_eq, q_eqm, q_meq, q_mltT, q_ltm, q_lem, q_mleT, if_true, if_false, if_pos, if_neg, Nat.reduceAdd, Nat.reduceMul, Nat.add_zero, Nat.zero_add, not_true_eq_false, not_false_eq_true, u_row, u_self, u_ne, cb_bi, cb_bv, cb_bl, hg, hs, q_shl, q_orN, n_31]
    · have hpk : ¬ tb s g k = true := by simp [tb]; omega
      rw [show bN (tb s g) (k + 1) = bN (tb s g) k by rw [bN_or1, if_neg hpk, Nat.or_zero]]
      simp (disch := omega) only [n_0, n_1, n_2, n_3, n_4, n_5, n_6, n_7, n_8, n_9, n_10, n_12, n_13, n_16, n_30, n_60, n_61, n_86, n_99, n_100, n_200, n_201, n_1023, n_65535, n_10000, n_1000000, ↓q_m1, q_add, q_addm, q_inB, q_cl, q_le, q_lt, q_eq, q_eqm, q_meq, q_mltT, q_ltm, q_lem, q_mleT, if_true, if_false, if_pos, if_neg, Nat.reduceAdd, Nat.reduceMul, Nat.add_zero, Nat.zero_add, not_true_eq_false, not_false_eq_true, u_row, u_self, u_ne, cb_bi, cb_bv, cb_bl, hg, hs])
  rw [show nI 0 = nI (bN (tb s g) 0) from rfl] 
  rw [show nI (bN (tb s g) 0) = nI 0 from rfl] at e1 ⊢
  rw [e1, f219_4, g178 h, cb_bi]
  simp (disch := omega) only [n_0, n_1, n_2, n_3, n_4, n_5, n_6, n_7, n_8, n_9, n_10, n_12, n_13, n_16, n_30, n_60, n_61, n_86, n_99, n_100, n_200, n_201, n_1023, n_65535, n_10000, n_1000000, ↓q_m1, q_add, q_addm, q_inB, q_cl, q_le, q_lt, q_eq, q_eqm, q_meq, q_mltT, q_ltm, q_lem, q_mleT, if_true, if_false, if_pos, if_neg, Nat.reduceAdd, Nat.reduceMul, Nat.add_zero, Nat.zero_add, not_true_eq_false, not_false_eq_true, u_row, u_self, u_ne, cb_bi, cb_bv, cb_bl]
  have hB := bN_lt16 (tb s g) hT
  obtain ⟨n2, M', e2, hF, hI⟩ := lr0 (fun n k M' => f219_41 z n (nI (bN (tb s g) (W 0 4))) (nI k) M') (W 0 4) (fun k M' => Fx (fun a => a = 213) M M' ∧ ∀ t, t < W 0 4 → M'.1 213 t = nI (tr k s g t)) z M (by omega) ⟨Fx.id0, fun t ht => by rw [hs t ht]; unfold tr; rw [if_neg (by omega)]⟩ (by
    intro n k M' hk hI
    obtain ⟨hF, hI⟩ := hI
    have h' : rM (M'.1 206) W := by rw [hF.2 206 (by decide)]; exact h
    have hgg : ∀ t, t ≠ k → tr (k + 1) s g t = tr k s g t := by
      intro t ht
      unfold tr
      by_cases q : t < k
      · simp only [show t < k + 1 by omega, q]
      · simp only [show ¬ t < k + 1 by omega, q]
    have hbt := bt_bN (tb s g) hk
    rw [f219_41, g178 h', cb_bi]
    simp (disch := omega) only [n_0, n_1, n_2, n_3, n_4, n_5, n_6, n_7, n_8, n_9, n_10, n_12, n_13, n_16, n_30, n_60, n_61, n_86, n_99, n_100, n_200, n_201, n_1023, n_65535, n_10000, n_1000000, ↓q_m1, q_add, q_addm, q_inB, q_cl, q_le, q_lt, q_eq, q_eqm, q_meq, q_mltT, q_ltm, q_lem, q_mleT, if_true, if_false, if_pos, if_neg, Nat.reduceAdd, Nat.reduceMul, Nat.add_zero, Nat.zero_add, not_true_eq_false, not_false_eq_true, u_row, u_self, u_ne, cb_bi, cb_bv, cb_bl]
    rw [g172 z M' (by omega) (by omega), cb_bi]
    have hb2 := bt_lt (bN (tb s g) (W 0 4)) k
    by_cases h1 : s k < g k
    · have hpk : tb s g k = true := by simp [tb, h1]
      have e3 : bt (bN (tb s g) (W 0 4)) k = 1 := by rw [hbt]; exact hpk
      simp (disch := omega) only [n_0, n_1, n_2, n_3, n_4, n_5, n_6, n_7, n_8, n_9, n_10, n_12, n_13, n_16, n_30, n_60, n_61, n_86, n_99, n_100, n_200, n_201, n_1023, n_65535, n_10000, n_1000000, ↓q_m1, q_add, q_addm, q_inB, q_cl, q_le, q_lt, q_eq, q_eqm, q_meq, q_mltT, q_ltm, q_lem, q_mleT, if_true, if_false, if_pos, if_neg, Nat.reduceAdd, Nat.reduceMul, Nat.add_zero, Nat.zero_add, not_true_eq_false, not_false_eq_true, u_row, u_self, u_ne, cb_bi, cb_bv, cb_bl, e3]
      refine ⟨_, rfl, Fx.w hF rfl, ?_⟩
      intro t ht
      show am_u M'.1 213 k (nI 0) 213 t = _
      rw [u_at]
      by_cases q : t = k
      · rw [if_pos q, q]
        unfold tr
        rw [if_pos ⟨by omega, h1⟩]
      · rw [if_neg q, hgg t q]
        exact hI t ht
    · have hpk : ¬ tb s g k = true := by simp [tb]; omega
      have e3 : ¬ bt (bN (tb s g) (W 0 4)) k = 1 := by rw [hbt]; exact hpk
      simp (disch := omega) only [n_0, n_1, n_2, n_3, n_4, n_5, n_6, n_7, n_8, n_9, n_10, n_12, n_13, n_16, n_30, n_60, n_61, n_86, n_99, n_100, n_200, n_201, n_1023, n_65535, n_10000, n_1000000, ↓q_m1, q_add, q_addm, q_inB, q_cl, q_le, q_lt, q_eq, q_eqm, q_meq, q_mltT, q_ltm, q_lem, q_mleT, if_true, if_false, if_pos, if_neg, Nat.reduceAdd, Nat.reduceMul, Nat.add_zero, Nat.zero_add, not_true_eq_false, not_false_eq_true, u_row, u_self, u_ne, cb_bi, cb_bv, cb_bl]
      refine ⟨M', rfl, hF, ?_⟩
      intro t ht
      rw [hI t ht]
      by_cases q : t = k
      · subst q
        unfold tr
        rw [if_neg (by omega), if_neg (by omega)]
      · rw [hgg t q])
  have h' : rM (M'.1 206) W := by rw [hF.2 206 (by decide)]; exact h
  refine ⟨M', ?_, hF, hI⟩
  refine Eq.trans e2 ?_
  rw [f219_41, g178 h', cb_bi]
  simp (disch := omega) only [n_0, n_1, n_2, n_3, n_4, n_5, n_6, n_7, n_8, n_9, n_10, n_12, n_13, n_16, n_30, n_60, n_61, n_86, n_99, n_100, n_200, n_201, n_1023, n_65535, n_10000, n_1000000, ↓q_m1, q_add, q_addm, q_inB, q_cl, q_le, q_lt, q_eq, q_eqm, q_meq, q_mltT, q_ltm, q_lem, q_mleT, if_true, if_false, if_pos, if_neg, Nat.reduceAdd, Nat.reduceMul, Nat.add_zero, Nat.zero_add, not_true_eq_false, not_false_eq_true, u_row, u_self, u_ne, cb_bi, cb_bv, cb_bl]
def kS (a : Nat) : Prop := a = 205 ∨ a = 213 ∨ a = 214 ∨ a = 215 ∨ a = 216 ∨ a = 217
def kQ (M M' : aM) : Prop := Fx kS M M' ∧ ∀ j, j < 22 ∨ 25 < j → M'.1 205 j = M.1 205 j
theorem kQ.id0 {M : aM} : kQ M M := ⟨Fx.id0, fun _ _ => rfl⟩
theorem kQ.trans {M M' M'' : aM} (h : kQ M M') (h' : kQ M' M'') : kQ M M'' := ⟨h.1.trans h'.1, fun j a => (h'.2 j a).trans (h.2 j a)⟩
theorem kQ.r {M M' : aM} (h : kQ M M') {a : Nat} (ha : ¬ kS a) : M'.1 a = M.1 a := h.1.2 a ha
theorem kQ.r206 {M M' : aM} (h : kQ M M') : M'.1 206 = M.1 206 := h.1.2 206 (by unfold kS; omega)
theorem kQ.ofK {M M' : aM} (h : mK M M') : kQ M M' := ⟨h.1.mono (fun a q => by unfold mS at q; unfold kS; omega), fun j q => h.2 j (by omega) (by omega)⟩
/-- pulls until nothing tears -/
theorem m_pulls {z : Nat} (hz : 2000 ≤ z) {W : cW} {law c n0 : Nat} (hW : wf W) (hl3 : law ≤ 3) (h200 : n0 ≤ 200) (hc : c < W 0 3) :
    ∀ (f : Nat) (s : Nat → Nat) (k rp n x : Nat) (M : aM), f < n → nW s (List.range (W 0 4)) < f → x ≠ 0 → x < 65536 → rM (M.1 206) W → M.1 205 16 = nI law → (∀ t, t < W 0 4 → M.1 213 t = nI (s t)) → (∀ t, s t ≤ 1000) → M.1 205 24 = nI k → M.1 205 25 = nI rp →
    ∃ M', f220_12 z n (nI c) (nI n0) (nI x) M = f220_53 z z (nI 0) M' ∧ kQ M M' ∧ M'.1 216 = M.1 216 ∧ M'.1 217 = M.1 217 ∧ (∀ t, t < W 0 4 → M'.1 213 t = nI ((qr W law c n0 f s k rp).1 t)) ∧ mX M' (qr W law c n0 f s k rp).2.1 ∧ M'.1 205 24 = nI (qr W law c n0 f s k rp).2.2.1 ∧ M'.1 205 25 = nI (qr W law c n0 f s k rp).2.2.2
  | 0, s, k, rp, n, x, M, hn, hf, hx, hx2, h, hl, hs, hb, h1, h2 => by omega
  | f + 1, s, k, rp, n, x, M, hn, hf, hx, hx2, h, hl, hs, hb, h1, h2 => by
    have hT : W 0 4 ≤ 16 := hW.2.2.2.2.1
    obtain ⟨n, rfl⟩ : ∃ n', n = n' + 1 := ⟨n - 1, by omega⟩
    have hix := pl_ix hW law s c n0
    obtain ⟨M1, b1, b2, b3⟩ := m_pull hz h hW hs hb hc hl hl3 h200
    obtain ⟨M3, t1, t2, t3⟩ := m_tear hz (M := (am_u M1.1 205 24 (nI (k + 1)), M1.2)) (W := W) (s := s) (g := (pl W law s c n0).1) (by simp (disch := omega) only [u_row]; rw [b2.r206]; exact h) hW (by simp (disch := omega) only [u_row]; rw [b2.r213]; exact hs) hb (by simp (disch := omega) only [u_row]; exact b3.1) (fun t => by have := hix.2.1 t; omega)
    have h24 : M1.1 205 24 = nI k := by rw [b2.2 24 (by omega) (by omega)]; exact h1
    have h25 : M3.1 205 25 = nI rp := by
      rw [t2.2 205 (by decide)]
      simp (disch := omega) only [u_ne]
      rw [b2.2 25 (by omega) (by omega)]; exact h2
    rw [f220_12]
    simp (disch := omega) only [n_0, n_1, n_2, n_3, n_4, n_5, n_6, n_7, n_8, n_9, n_10, n_12, n_13, n_16, n_30, n_60, n_61, n_86, n_99, n_100, n_200, n_201, n_1023, n_65535, n_10000, n_1000000, ↓q_m1, q_add, q_addm, q_inB, q_cl, q_le, q_lt, q_eq, q_eqm, q_meq, q_mltT, q_ltm, q_lem, q_mleT, if_true, if_false, if_pos, if_neg, Nat.reduceAdd, Nat.reduceMul, Nat.add_zero, Nat.zero_add, not_true_eq_false, not_false_eq_true, u_row, u_self, u_ne, cb_bi, cb_bv, cb_bl, b1, h24, t1, h25, q_orN]
    have hB := bN_lt16 (tb s (pl W law s c n0).1) hT
    generalize hM4 : ((am_u M3.1 205 25 (nI (rp ||| bN (tb s (pl W law s c n0).1) (W 0 4))), M3.2) : aM) = M4
    have r4 : ∀ a, a ≠ 205 → M4.1 a = M3.1 a := fun a ha => by rw [← hM4]; show am_u _ _ _ _ a = _; rw [u_row ha]
    have i4 : ∀ j, j ≠ 25 → M4.1 205 j = M3.1 205 j := fun j hj => by rw [← hM4]; show am_u _ _ _ _ 205 j = _; rw [u_ne hj]
    have i45 : M4.1 205 25 = nI (rp ||| bN (tb s (pl W law s c n0).1) (W 0 4)) := by rw [← hM4]; simp only [u_self]
    have r3 : ∀ a, a ≠ 205 → a ≠ 213 → M3.1 a = M1.1 a := fun a ha hb => by rw [t2.2 a hb]; show am_u _ _ _ _ a = _; rw [u_row ha]
    have i3 : ∀ j, j ≠ 24 → M3.1 205 j = M1.1 205 j := fun j hj => by rw [t2.2 205 (by decide)]; show am_u _ _ _ _ 205 j = _; rw [u_ne hj]
    have i34 : M3.1 205 24 = nI (k + 1) := by rw [t2.2 205 (by decide)]; simp only [u_self]
    have hK : kQ M M4 := by
      refine ⟨⟨?_, fun a ha => ?_⟩, fun j hj => ?_⟩
      · rw [← hM4]
        show M3.2 = M.2
        rw [t2.1]
        exact b2.1.1
      · unfold kS at ha
        rw [r4 a (by omega), r3 a (by omega) (by omega)]
        exact b2.1.2 a (by unfold mS; omega)
      · rw [i4 j (by omega), i3 j (by omega)]
        exact b2.2 j (by omega) (by omega)
    have hX4 : mX M4 (pl W law s c n0) := by
      refine ⟨?_, ?_, ?_, ?_⟩
      · rw [r4 214 (by decide), r3 214 (by decide) (by decide)]; exact b3.1
      · rw [r4 215 (by decide), r3 215 (by decide) (by decide)]; exact b3.2.1
      · rw [i4 22 (by decide), i3 22 (by decide)]; exact b3.2.2.1
      · rw [i4 23 (by decide), i3 23 (by decide)]; exact b3.2.2.2
    have h6 : M4.1 216 = M.1 216 := by rw [r4 216 (by decide), r3 216 (by decide) (by decide)]; exact b2.1.2 216 (by unfold mS; omega)
    have h7 : M4.1 217 = M.1 217 := by rw [r4 217 (by decide), r3 217 (by decide) (by decide)]; exact b2.1.2 217 (by unfold mS; omega)
    have h244 : M4.1 205 24 = nI (k + 1) := by rw [i4 24 (by decide)]; exact i34
    have h213 : ∀ t, t < W 0 4 → M4.1 213 t = nI (tr (W 0 4) s (pl W law s c n0).1 t) := by rw [r4 213 (by decide)]; exact t3
    unfold qr
    by_cases hb0 : bN (tb s (pl W law s c n0).1) (W 0 4) = 0
    · simp only [if_pos hb0]
      obtain ⟨n, rfl⟩ : ∃ n', n = n' + 1 := ⟨n - 1, by omega⟩
      refine ⟨M4, ?_, hK, h6, h7, ?_, hX4, h244, ?_⟩
      · rw [f220_12]
        simp (disch := omega) only [n_0, n_1, n_2, n_3, n_4, n_5, n_6, n_7, n_8, n_9, n_10, n_12, n_13, n_16, n_30, n_60, n_61, n_86, n_99, n_100, n_200, n_201, n_1023, n_65535, n_10000, n_1000000, ↓q_m1, q_add, q_addm, q_inB, q_cl, q_le, q_lt, q_eq, q_eqm, q_meq, q_mltT, q_ltm, q_lem, q_mleT, if_true, if_false, if_pos, if_neg, Nat.reduceAdd, Nat.reduceMul, Nat.add_zero, Nat.zero_add, not_true_eq_false, not_false_eq_true, u_row, u_self, u_ne, cb_bi, cb_bv, cb_bl, hb0]
      · intro t ht
        rw [h213 t ht]
        unfold tr
        rw [bN_zero] at hb0
        have := hb0 t ht
        rw [if_neg]
        intro q
        apply this
        simp only [tb, q.2, decide_true]
      · rw [i45, hb0, Nat.or_zero]
    · simp only [if_neg hb0]
      obtain ⟨M', e1, e2, e3, e4, e5, e6, e7, e8⟩ := m_pulls hz hW hl3 h200 hc f (tr (W 0 4) s (pl W law s c n0).1) (k + 1) (rp ||| bN (tb s (pl W law s c n0).1) (W 0 4)) n (bN (tb s (pl W law s c n0).1) (W 0 4)) M4 (by omega) (by have := tr_lt hW hb0; omega) hb0 hB (by rw [hK.r206]; exact h) (by rw [hK.2 16 (by omega)]; exact hl) h213 (fun t => Nat.le_trans (tr_le _ _ _ t) (hb t)) h244 i45
      exact ⟨M', e1, hK.trans e2, by rw [e3, h6], by rw [e4, h7], e5, e6, e7, e8⟩
def ad (N : Nat) (f g : Nat → Nat) : Nat → Nat := fun t => if t < N then f t + g t else f t
theorem ad_s {f g : Nat → Nat} {k : Nat} : ∀ t, ad (k + 1) f g t = up (ad k f g) k (f k + g k) t := by
  intro t
  simp only [ad, up]
  by_cases q : t = k
  · rw [if_pos (by omega), if_pos q, q]
  · rw [if_neg q]
    by_cases q2 : t < k
    · rw [if_pos (by omega), if_pos q2]
    · rw [if_neg (by omega), if_neg q2]
theorem ad_k {f g : Nat → Nat} {k : Nat} : ad k f g k = f k := if_neg (by omega)
theorem wr_s {f g : Nat → Nat} {k : Nat} : ∀ t, wr (k + 1) f g t = up (wr k f g) k (f k - g k / 5) t := by
  intro t
  simp only [wr, up]
  by_cases q : t = k
  · rw [if_pos (by omega), if_pos q, q]
  · rw [if_neg q]
    by_cases q2 : t < k
    · rw [if_pos (by omega), if_pos q2]
    · rw [if_neg (by omega), if_neg q2]
theorem wr_k {f g : Nat → Nat} {k : Nat} : wr k f g k = f k := if_neg (by omega)
/-- quarrelNow -/
theorem m_quarrel {z : Nat} (hz : 2000 ≤ z) {M : aM} {W : cW} (h : rM (M.1 206) W) (hW : wf W) {s wo be : Nat → Nat} (hs : ∀ t, t < W 0 4 → M.1 213 t = nI (s t)) (hb : ∀ t, s t ≤ 1000) {c law n0 : Nat} (hc : c < W 0 3) (hl : M.1 205 16 = nI law) (hl3 : law ≤ 3) (h200 : n0 ≤ 200) (hwo : ∀ t, t < W 0 4 → M.1 216 t = nI (wo t)) (hbe : ∀ t, t < W 0 4 → M.1 217 t = nI (be t)) :
    ∃ M', f220 z (nI c) (nI n0) M = some (none, M') ∧ kQ M M' ∧ (∀ t, t < W 0 4 → M'.1 213 t = nI ((qd W law c n0 s).1 t)) ∧ mX M' (qd W law c n0 s).2.1 ∧ M'.1 205 24 = nI (qd W law c n0 s).2.2.1 ∧ M'.1 205 25 = nI (qd W law c n0 s).2.2.2 ∧ (∀ t, t < W 0 4 → M'.1 216 t = nI (ad (W 0 4) wo (fun t => (qd W law c n0 s).2.1.1 t / 5) t)) ∧ (∀ t, t < W 0 4 → M'.1 217 t = nI (ad (W 0 4) be (qd W law c n0 s).2.1.1 t)) := by
  have hT : W 0 4 ≤ 16 := hW.2.2.2.2.1
  have hK0 : kQ M (am_u (am_u M.1 205 24 (nI 0)) 205 25 (nI 0), M.2) := ⟨Fx.w (Fx.w Fx.id0 (.inl rfl)) (.inl rfl), fun j hj => by simp (disch := omega) only [u_ne]⟩
  obtain ⟨M1, e1, e2, e3, e4, e5, e6, e7, e8⟩ := m_pulls hz hW hl3 h200 hc 17 s 0 0 z 1 (am_u (am_u M.1 205 24 (nI 0)) 205 25 (nI 0), M.2) (by omega) (nW_range hW s) (by omega) (by omega) (by rw [hK0.r206]; exact h) (by rw [hK0.2 16 (by omega)]; exact hl) (by simp (disch := omega) only [u_row]; exact hs) hb (by simp (disch := omega) only [u_ne, u_self]) (by simp only [u_self])
  have hend := qr_end hW (law := law) (c := c) (n := n0) 17 s 0 0 (nW_range hW s)
  unfold f220
  simp only [n_0, n_1]
  rw [e1]
  unfold qd
  generalize qr W law c n0 17 s 0 0 = Q at *
  have hwo1 : ∀ t, t < W 0 4 → M1.1 216 t = nI (wo t) := by rw [e3]; simp (disch := omega) only [u_row]; exact hwo
  have hbe1 : ∀ t, t < W 0 4 → M1.1 217 t = nI (be t) := by rw [e4]; simp (disch := omega) only [u_row]; exact hbe
  obtain ⟨n, M', e, hF, hI, hJ, hL⟩ := lr0 (fun n k M' => f220_53 z n (nI k) M') (W 0 4) (fun k M' => Fx (fun a => a = 213 ∨ a = 216 ∨ a = 217) M1 M' ∧ (∀ t, t < W 0 4 → M'.1 213 t = nI (wr k Q.1 Q.2.1.1 t)) ∧ (∀ t, t < W 0 4 → M'.1 216 t = nI (ad k wo (fun t => Q.2.1.1 t / 5) t)) ∧ (∀ t, t < W 0 4 → M'.1 217 t = nI (ad k be Q.2.1.1 t))) z M1 (by omega) ⟨Fx.id0, fun t ht => by rw [e5 t ht]; unfold wr; rw [if_neg (by omega)], fun t ht => by rw [hwo1 t ht]; unfold ad; rw [if_neg (by omega)], fun t ht => by rw [hbe1 t ht]; unfold ad; rw [if_neg (by omega)]⟩ (by
    intro n k M' hk hI
    obtain ⟨hF, hI, hJ, hL⟩ := hI
    have h' : rM (M'.1 206) W := by rw [hF.2 206 (by omega), e2.r206, hK0.r206]; exact h
    have hg' : ∀ t, t < 16 → M'.1 214 t = nI (Q.2.1.1 t) := by rw [hF.2 214 (by omega)]; exact e6.1
    have hsk : M'.1 213 k = nI (Q.1 k) := by rw [hI k hk, wr_k]
    have hwk : M'.1 216 k = nI (wo k) := by rw [hJ k hk, ad_k]
    have hbk : M'.1 217 k = nI (be k) := by rw [hL k hk, ad_k]
    have h1 := hend.1 k hk
    have h2 := hend.2.1 k
    have h3 := hb k
    have h4 : Q.2.1.1 k / 5 ≤ Q.2.1.1 k := Nat.div_le_self _ _
    have h5 : 0 < Q.2.1.1 k / 5 → Q.1 k ≠ Q.2.1.1 k / 5 := by omega
    have fin : ∀ M2 : aM, M2 = (am_u (am_u (am_u M'.1 213 k (nI (Q.1 k - Q.2.1.1 k / 5))) 216 k (nI (wo k + Q.2.1.1 k / 5))) 217 k (nI (be k + Q.2.1.1 k)), M'.2) → Fx (fun a => a = 213 ∨ a = 216 ∨ a = 217) M1 M2 ∧ (∀ t, t < W 0 4 → M2.1 213 t = nI (wr (k + 1) Q.1 Q.2.1.1 t)) ∧ (∀ t, t < W 0 4 → M2.1 216 t = nI (ad (k + 1) wo (fun t => Q.2.1.1 t / 5) t)) ∧ (∀ t, t < W 0 4 → M2.1 217 t = nI (ad (k + 1) be Q.2.1.1 t)) := by
      intro M2 e
      rw [e]
      refine ⟨Fx.w (Fx.w (Fx.w hF (.inl rfl)) (.inr (.inl rfl))) (.inr (.inr rfl)), ?_, ?_, ?_⟩
      · simp (disch := omega) only [u_row, wr_s]
        exact row_upg hI
      · simp (disch := omega) only [u_row, ad_s]
        exact row_upg (fun i hi => by simp (disch := omega) only [u_row]; exact hJ i hi)
      · simp (disch := omega) only [ad_s]
        exact row_upg (fun i hi => by simp (disch := omega) only [u_row]; exact hL i hi)
    rw [f220_53, g178 h', cb_bi]
    by_cases h0 : Q.2.1.1 k / 5 = 0
    · simp (disch := omega) only [n_0, n_1, n_2, n_3, n_4, n_5, n_6, n_7, n_8, n_9, n_10, n_12, n_13, n_16, n_30, n_60, n_61, n_86, n_99, n_100, n_200, n_201, n_1023, n_65535, n_10000, n_1000000, ↓q_m1, q_add, q_addm, q_inB, q_cl, q_le, q_lt, q_eq, q_eqm, q_meq, q_mltT, q_ltm, q_lem, q_mleT, if_true, if_false, if_pos, if_neg, Nat.reduceAdd, Nat.reduceMul, Nat.add_zero, Nat.zero_add, not_true_eq_false, not_false_eq_true, u_row, u_self, u_ne, cb_bi, cb_bv, cb_bl, hg', hsk, hwk, hbk, q_div, q_sub, f220_144]
      exact ⟨_, rfl, fin _ rfl⟩
    · have := h5 (by omega)
      simp (disch := omega) only [n_0, n_1, n_2, n_3, n_4, n_5, n_6, n_7, n_8, n_9, n_10, n_12, n_13, n_16, n_30, n_60, n_61, n_86, n_99, n_100, n_200, n_201, n_1023, n_65535, n_10000, n_1000000, ↓q_m1, q_add, q_addm, q_inB, q_cl, q_le, q_lt, q_eq, q_eqm, q_meq, q_mltT, q_ltm, q_lem, q_mleT, if_true, if_false, if_pos, if_neg, Nat.reduceAdd, Nat.reduceMul, Nat.add_zero, Nat.zero_add, not_true_eq_false, not_false_eq_true, u_row, u_self, u_ne, cb_bi, cb_bv, cb_bl, hg', hsk, hwk, hbk, q_div, q_sub, f220_144]
      exact ⟨_, rfl, fin _ rfl⟩)
  have h' : rM (M'.1 206) W := by rw [hF.2 206 (by omega), e2.r206, hK0.r206]; exact h
  refine ⟨M', ?_, ?_, hI, ⟨?_, ?_, ?_, ?_⟩, ?_, ?_, hJ, hL⟩
  · refine Eq.trans e ?_
    rw [f220_53, g178 h', cb_bi]
    simp (disch := omega) only [n_0, n_1, n_2, n_3, n_4, n_5, n_6, n_7, n_8, n_9, n_10, n_12, n_13, n_16, n_30, n_60, n_61, n_86, n_99, n_100, n_200, n_201, n_1023, n_65535, n_10000, n_1000000, ↓q_m1, q_add, q_addm, q_inB, q_cl, q_le, q_lt, q_eq, q_eqm, q_meq, q_mltT, q_ltm, q_lem, q_mleT, if_true, if_false, if_pos, if_neg, Nat.reduceAdd, Nat.reduceMul, Nat.add_zero, Nat.zero_add, not_true_eq_false, not_false_eq_true, u_row, u_self, u_ne, cb_bi, cb_bv, cb_bl]
  · refine (hK0.trans e2).trans ⟨hF.mono (fun a q => by unfold kS; omega), fun j hj => by rw [hF.2 205 (by omega)]⟩
  · rw [hF.2 214 (by omega)]; exact e6.1
  · rw [hF.2 215 (by omega)]; exact e6.2.1
  · rw [hF.2 205 (by omega)]; exact e6.2.2.1
  · rw [hF.2 205 (by omega)]; exact e6.2.2.2
  · rw [hF.2 205 (by omega)]; exact e7
  · rw [hF.2 205 (by omega)]; exact e8
