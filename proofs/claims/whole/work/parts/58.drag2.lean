/-- divide -/
theorem c_divide {z : Nat} (hz : 2000 ≤ z) {M : aM} {W : cW} {s : Nat → Nat} {u r c law n0 : Nat} (hW : wf W) (hC : rC M 18 W) (hu : 32 ≤ u) (hr : 32 ≤ r) (hn0 : r ≠ u) (hn1 : r ≠ u + 1) (hn2 : r ≠ u + 2) (hc : c < 8) (hs : ∀ t, t < W 0 4 → M.1 r t = nI (s t)) (hb : ∀ t, s t ≤ 1000) (hl3 : law ≤ 3) {X : cX} (hX : tX M u X) (hi : ix W s n0 (c + 1) X) (h200 : n0 ≤ 200) (hL0 : X.2.1 c ≠ 0) :
    ∃ M', f58 z u 18 (nI law) r (nI c) M = some (none, M') ∧ Fx (fun a => a = u ∨ a = u + 1 ∨ a = u + 2) M M' ∧ (∀ j, j < 3 → M'.1 u j = M.1 u j) ∧ tX M' u (dv W law s c X) := by
  have hT : W 0 4 ≤ 16 := hW.2.2.2.2.1
  have hLn : X.2.1 c ≤ 200 := by
    have h1 : sm X.2.1 c + X.2.1 c + X.2.2.1 + X.2.2.2 = n0 := hi.1
    omega
  have hwl : nW s (thr W c) ≤ 16 := Nat.le_trans (nW_le s _) (thr_len hW c)
  have htl := ws_lim s hb (thr W c)
  have htL := thr_len hW c
  have h9 : ∀ t ∈ thr W c, t ≠ 99 := fun t ht => thr_ne99 hW ht
  have hz0 : ∀ t ∈ thr W c, X.1 t = 0 := fun t ht => hi.2.2.1 t (thr_mem.mp ht).1 (by have := (thr_mem.mp ht).2; omega)
  obtain ⟨M1, e1, hF1, h6, h7, h8, hd9, hj1⟩ := c_survey hz hW hC hu hr hn0 hc hs hb
  obtain ⟨hX1, hX2, hX3, hX4⟩ := hX
  have hY1 : ∀ t, t < 16 → M1.1 (u + 1) t = nI (X.1 t) := by rw [hF1.2 (u + 1) (by omega)]; exact hX1
  have hY2 : ∀ c, c < 8 → M1.1 (u + 2) c = nI (X.2.1 c) := by rw [hF1.2 (u + 2) (by omega)]; exact hX2
  have hY3 : M1.1 u 3 = nI X.2.2.1 := by rw [hj1 3 (by omega)]; exact hX3
  have hY4 : M1.1 u 4 = nI X.2.2.2 := by rw [hj1 4 (by omega)]; exact hX4
  have hC1 := hC.fx hF1 (fun a q => by omega)
  have hs1 : ∀ t, t < W 0 4 → M1.1 r t = nI (s t) := by rw [hF1.2 r (fun q => hn0 q)]; exact hs
  have hG1 : Fx (fun a => a = u ∨ a = u + 1 ∨ a = u + 2) M M1 := hF1.mono (fun a q => .inl q)
  unfold f58
  rw [e1, cb_bv]
  unfold dv
  rw [if_neg hL0]
  by_cases hw : nW s (thr W c) = 0
  · rw [if_pos hw]
    rw [hw] at h6
    simp (disch := omega) only [n_0, n_1, n_2, n_3, n_4, n_5, n_6, n_7, n_8, n_9, n_10, n_12, n_13, n_16, n_30, n_60, n_61, n_86, n_99, n_100, n_200, n_201, n_1023, n_65535, n_10000, n_1000000, ↓q_m1, q_add, q_addm, q_inB, q_cl, q_le, q_lt, q_eq, q_eqm, q_meq, q_mltT, q_ltm, q_lem, q_mleT, if_true, if_false, if_pos, if_neg, Nat.reduceAdd, Nat.reduceMul, Nat.add_zero, Nat.zero_add, not_true_eq_false, not_false_eq_true, u_row, u_self, u_ne, cb_bi, cb_bv, cb_bl, h6, hY2, hY3]
    refine ⟨_, rfl, Fx.w hG1 (.inl rfl), ?_, ?_, ?_, ?_, ?_⟩
    · intro j hj
      simp (disch := omega) only [u_ne]
      exact hj1 j (by omega)
    · simp (disch := omega) only [u_row]
      exact hY1
    · simp (disch := omega) only [u_row]
      exact hY2
    · simp only [u_self]
    · simp (disch := omega) only [u_ne]
      exact hY4
  · rw [if_neg hw]
    obtain ⟨b, hbm⟩ := mx_ex hw h9
    have hbb := mx_mem hbm
    have hb16 := (thr_mem.mp hbb.1).1
    have htt : 0 < ws s s (thr W c) := Nat.lt_of_lt_of_le hbb.2.1 (ws_le hbb.1 hbb.2.1)
    rw [hbm, oI_s] at h8
    have fin : ∀ M2, Fx (fun a => a = u + 1) M1 M2 → (∀ t, t < 16 → M2.1 (u + 1) t = nI (shr law s (thr W c) (X.2.1 c) X.1 t)) → ∃ M', am_bv (f62 z u 18 (nI c) M2) (fun M5 => some (none, M5)) = some (none, M') ∧ Fx (fun a => a = u ∨ a = u + 1 ∨ a = u + 2) M M' ∧ (∀ j, j < 3 → M'.1 u j = M.1 u j) ∧ tX M' u (shr law s (thr W c) (X.2.1 c) X.1, ((thr W c).foldl (ps W s (shr law s (thr W c) (X.2.1 c) X.1)) (X.2.1, X.2.2.2)).1, X.2.2.1, ((thr W c).foldl (ps W s (shr law s (thr W c) (X.2.1 c) X.1)) (X.2.1, X.2.2.2)).2) := by
      intro M2 hF2 hr2
      obtain ⟨M', e3, hF3, hj3, hX3'⟩ := c_pass hz (M := M2) (W := W) (s := s) (u := u) (c := c) (g := shr law s (thr W c) (X.2.1 c) X.1) (ld := X.2.1) (lost := X.2.2.1) (hem := X.2.2.2) hW (hC1.fx hF2 (fun a q => by omega)) hu hc ⟨hr2, by rw [hF2.2 (u + 2) (by omega)]; exact hY2, by rw [hF2.2 u (by omega)]; exact hY3, by rw [hF2.2 u (by omega)]; exact hY4⟩ (fun t ht h0 => by rw [shr_ne hw h9 (.inr h0)]; exact hz0 t ht)
      refine ⟨M', by rw [e3, cb_bv], (hG1.trans (hF2.mono (fun a q => .inr (.inl q)))).trans (hF3.mono (fun a q => by omega)), ?_, hX3'⟩
      intro j hj
      rw [hj3 j (by omega), hF2.2 u (by omega)]
      exact hj1 j (by omega)
    simp (disch := omega) only [n_0, n_1, n_2, n_3, n_4, n_5, n_6, n_7, n_8, n_9, n_10, n_12, n_13, n_16, n_30, n_60, n_61, n_86, n_99, n_100, n_200, n_201, n_1023, n_65535, n_10000, n_1000000, ↓q_m1, q_add, q_addm, q_inB, q_cl, q_le, q_lt, q_eq, q_eqm, q_meq, q_mltT, q_ltm, q_lem, q_mleT, if_true, if_false, if_pos, if_neg, Nat.reduceAdd, Nat.reduceMul, Nat.add_zero, Nat.zero_add, not_true_eq_false, not_false_eq_true, u_row, u_self, u_ne, cb_bi, cb_bv, cb_bl, h6, h7]
    by_cases l0 : law = 0
    · obtain ⟨M2, e2, hF2, hr2⟩ := c_even hz hW hC1 hu hr hn1 hc hs1 hb hY1 (hY2 c hc) hLn h6 hw
      simp (disch := omega) only [n_0, n_1, n_2, n_3, n_4, n_5, n_6, n_7, n_8, n_9, n_10, n_12, n_13, n_16, n_30, n_60, n_61, n_86, n_99, n_100, n_200, n_201, n_1023, n_65535, n_10000, n_1000000, ↓q_m1, q_add, q_addm, q_inB, q_cl, q_le, q_lt, q_eq, q_eqm, q_meq, q_mltT, q_ltm, q_lem, q_mleT, if_true, if_false, if_pos, if_neg, Nat.reduceAdd, Nat.reduceMul, Nat.add_zero, Nat.zero_add, not_true_eq_false, not_false_eq_true, u_row, u_self, u_ne, cb_bi, cb_bv, cb_bl, e2]
      refine fin M2 hF2 ?_
      intro t ht
      rw [hr2 t ht, l0]
      rfl
    · by_cases l1 : law = 1
      · simp (disch := omega) only [n_0, n_1, n_2, n_3, n_4, n_5, n_6, n_7, n_8, n_9, n_10, n_12, n_13, n_16, n_30, n_60, n_61, n_86, n_99, n_100, n_200, n_201, n_1023, n_65535, n_10000, n_1000000, ↓q_m1, q_add, q_addm, q_inB, q_cl, q_le, q_lt, q_eq, q_eqm, q_meq, q_mltT, q_ltm, q_lem, q_mleT, if_true, if_false, if_pos, if_neg, Nat.reduceAdd, Nat.reduceMul, Nat.add_zero, Nat.zero_add, not_true_eq_false, not_false_eq_true, u_row, u_self, u_ne, cb_bi, cb_bv, cb_bl, h8, hY2]
        refine fin _ (Fx.w Fx.id0 rfl) ?_
        have e : shr law s (thr W c) (X.2.1 c) X.1 = up X.1 b (X.2.1 c) := by
          unfold shr
          rw [if_neg l0, if_pos l1, hbm]
          rfl
        rw [e]
        exact row_upg hY1
      · by_cases l2 : law = 2
        · obtain ⟨M2, e2, hF2, hr2⟩ := c_bystr hz hW hC1 hu hr hn1 hc hs1 hb hY1 (hY2 c hc) hLn h7 h8 hbm hz0
          simp (disch := omega) only [n_0, n_1, n_2, n_3, n_4, n_5, n_6, n_7, n_8, n_9, n_10, n_12, n_13, n_16, n_30, n_60, n_61, n_86, n_99, n_100, n_200, n_201, n_1023, n_65535, n_10000, n_1000000, ↓q_m1, q_add, q_addm, q_inB, q_cl, q_le, q_lt, q_eq, q_eqm, q_meq, q_mltT, q_ltm, q_lem, q_mleT, if_true, if_false, if_pos, if_neg, Nat.reduceAdd, Nat.reduceMul, Nat.add_zero, Nat.zero_add, not_true_eq_false, not_false_eq_true, u_row, u_self, u_ne, cb_bi, cb_bv, cb_bl, e2]
          refine fin M2 hF2 ?_
          intro t ht
          rw [hr2 t ht, l2]
        · have l3 : law = 3 := by omega
          have em : m2 s (thr W c) = mx s b (thr W c) := by unfold m2; rw [hbm]
          have e2 : shr law s (thr W c) (X.2.1 c) X.1 = match m2 s (thr W c) with
            | none => up X.1 b (X.2.1 c)
            | some d => up (up X.1 b (X.2.1 c - X.2.1 c / 2)) d (X.2.1 c / 2) := by
            unfold shr
            rw [if_neg l0, if_neg l1, if_neg l2, hbm]
            rfl
          cases hd : m2 s (thr W c) with
          | none =>
            rw [hd, oI_n] at hd9
            rw [hd] at e2
            simp (disch := omega) only [n_0, n_1, n_2, n_3, n_4, n_5, n_6, n_7, n_8, n_9, n_10, n_12, n_13, n_16, n_30, n_60, n_61, n_86, n_99, n_100, n_200, n_201, n_1023, n_65535, n_10000, n_1000000, ↓q_m1, q_add, q_addm, q_inB, q_cl, q_le, q_lt, q_eq, q_eqm, q_meq, q_mltT, q_ltm, q_lem, q_mleT, if_true, if_false, if_pos, if_neg, Nat.reduceAdd, Nat.reduceMul, Nat.add_zero, Nat.zero_add, not_true_eq_false, not_false_eq_true, u_row, u_self, u_ne, cb_bi, cb_bv, cb_bl, h8, hd9, hY2]
            refine fin _ (Fx.w Fx.id0 rfl) ?_
            rw [e2]
            exact row_upg hY1
          | some d =>
            have hdm := m2_mem hbm hd
            have hd16 := (thr_mem.mp hdm.1).1
            rw [hd, oI_s] at hd9
            rw [hd] at e2
            have hdb := hdm.2.2
            simp (disch := omega) only [n_0, n_1, n_2, n_3, n_4, n_5, n_6, n_7, n_8, n_9, n_10, n_12, n_13, n_16, n_30, n_60, n_61, n_86, n_99, n_100, n_200, n_201, n_1023, n_65535, n_10000, n_1000000, ↓q_m1, q_add, q_addm, q_inB, q_cl, q_le, q_lt, q_eq, q_eqm, q_meq, q_mltT, q_ltm, q_lem, q_mleT, if_true, if_false, if_pos, if_neg, Nat.reduceAdd, Nat.reduceMul, Nat.add_zero, Nat.zero_add, not_true_eq_false, not_false_eq_true, u_row, u_self, u_ne, cb_bi, cb_bv, cb_bl, h8, hd9, hY2, q_div, q_sub]
            refine fin _ (Fx.w (Fx.w (Fx.w Fx.id0 rfl) rfl) rfl) ?_
            rw [e2]
            intro t ht
            show am_u (am_u (am_u M1.1 (u + 1) b (nI (X.2.1 c))) (u + 1) d (nI (X.2.1 c / 2))) (u + 1) b (nI (X.2.1 c - X.2.1 c / 2)) (u + 1) t = nI (up (up X.1 b (X.2.1 c - X.2.1 c / 2)) d (X.2.1 c / 2) t)
            rw [u_at, u_at, u_at, hY1 t ht]
            unfold up
            by_cases q1 : t = b
            · rw [if_pos q1, if_neg (fun q => hdb (q.symm.trans q1)), if_pos q1]
            · rw [if_neg q1, if_neg q1, if_neg q1]
              split <;> rfl
/-- tear -/
theorem c_tear {z : Nat} (hz : 2000 ≤ z) {M : aM} {W : cW} {s g : Nat → Nat} {u r rp : Nat} (hW : wf W) (hC : rC M 18 W) (hu : 32 ≤ u) (hr : 32 ≤ r) (hn0 : r ≠ u) (hn1 : r ≠ u + 1) (hs : ∀ t, t < W 0 4 → M.1 r t = nI (s t)) (hb : ∀ t, s t ≤ 1000) (hg : ∀ t, t < 16 → M.1 (u + 1) t = nI (g t)) (hgb : ∀ t, g t ≤ 1000) (h2 : M.1 u 2 = nI rp) :
    ∃ M', f63 z u 18 r M = some (some (.inl (nI (if bN (tb s g) (W 0 4) = 0 then 0 else 1))), M') ∧ Fx (fun a => a = u ∨ a = r) M M' ∧ (∀ j, j ≠ 2 → M'.1 u j = M.1 u j) ∧ M'.1 u 2 = nI (rp ||| bN (tb s g) (W 0 4)) ∧ (∀ t, t < W 0 4 → M'.1 r t = nI (tr (W 0 4) s g t)) := by
  have hT : W 0 4 ≤ 16 := hW.2.2.2.2.1
  unfold f63
  simp only [n_0]
  obtain ⟨n, M', e, hF, hJ, hR, hI⟩ := lr0 (fun n k M' => f63_5 z n u 18 r (nI (if bN (tb s g) k = 0 then 0 else 1)) (nI k) M') (W 0 4) (fun k M' => Fx (fun a => a = u ∨ a = r) M M' ∧ (∀ j, j ≠ 2 → M'.1 u j = M.1 u j) ∧ M'.1 u 2 = nI (rp ||| bN (tb s g) k) ∧ (∀ t, t < W 0 4 → M'.1 r t = nI (tr k s g t))) z M (by omega) ⟨Fx.id0, fun _ _ => rfl, by rw [h2]; show nI rp = nI (rp ||| 0); rw [Nat.or_zero], fun t ht => by rw [hs t ht]; unfold tr; rw [if_neg (by omega)]⟩ (by
    intro n k M' hk hI
    obtain ⟨hF, hJ, hR, hI⟩ := hI
    have hC' := hC.fx hF (fun a q => by omega)
    have hg' : ∀ t, t < 16 → M'.1 (u + 1) t = nI (g t) := by rw [hF.2 (u + 1) (by omega)]; exact hg
    have hsk : M'.1 r k = nI (s k) := by rw [hI k hk]; unfold tr; rw [if_neg (by omega)]
    have hbk := hb k
    have hgk := hgb k
    have hp := Nat.two_pow_pos k
    have hgg : ∀ t, t ≠ k → tr (k + 1) s g t = tr k s g t := by
      intro t ht
      unfold tr
      by_cases q : t < k
      · simp only [show t < k + 1 by omega, q]
      · simp only [show ¬ t < k + 1 by omega, q]
    rw [f63_5]
    by_cases h1 : s k < g k
    · have hpk : tb s g k = true := by simp [tb, h1]
      have e1 : bN (tb s g) (k + 1) = bN (tb s g) k ||| 2 ^ k := by rw [bN_or1, if_pos hpk]
      have e2 : bN (tb s g) (k + 1) ≠ 0 := by
        show bN (tb s g) k + (if tb s g k = true then 2 ^ k else 0) ≠ 0
        rw [if_pos hpk]; omega
      rw [if_neg e2]
      simp (disch := omega) only [n_0, n_1, n_2, n_3, n_4, n_5, n_6, n_7, n_8, n_9, n_10, n_12, n_13, n_16, n_30, n_60, n_61, n_86, n_99, n_100, n_200, n_201, n_1023, n_65535, n_10000, n_1000000, ↓q_m1, q_add, q_addm, q_inB, q_cl, q_le, q_lt, q_eq, q_eqm, q_meq, q_mltT, q_ltm, q_lem, q_mleT, if_true, if_false, if_pos, if_neg, Nat.reduceAdd, Nat.reduceMul, Nat.add_zero, Nat.zero_add, not_true_eq_false, not_false_eq_true, u_row, u_self, u_ne, cb_bi, cb_bv, cb_bl, hC'.i5, hg', hsk, hR, q_shl, q_orN, n_31]
      refine ⟨_, rfl, Fx.w (Fx.w hF (.inr rfl)) (.inl rfl), ?_, ?_, ?_⟩
      · intro j hj
        simp (disch := omega) only [u_ne, u_row]
        exact hJ j hj
      · simp only [u_self, e1, Nat.or_assoc]
      · intro t ht
        simp (disch := omega) only [u_row]
        rw [u_at]
        by_cases q : t = k
        · rw [if_pos q, q]
          unfold tr
          rw [if_pos ⟨by omega, h1⟩]
        · rw [if_neg q, hgg t q]
          exact hI t ht
    · have hpk : ¬ tb s g k = true := by simp [tb]; omega
      have e1 : bN (tb s g) (k + 1) = bN (tb s g) k := by rw [bN_or1, if_neg hpk, Nat.or_zero]
      simp (disch := omega) only [n_0, n_1, n_2, n_3, n_4, n_5, n_6, n_7, n_8, n_9, n_10, n_12, n_13, n_16, n_30, n_60, n_61, n_86, n_99, n_100, n_200, n_201, n_1023, n_65535, n_10000, n_1000000, ↓q_m1, q_add, q_addm, q_inB, q_cl, q_le, q_lt, q_eq, q_eqm, q_meq, q_mltT, q_ltm, q_lem, q_mleT, if_true, if_false, if_pos, if_neg, Nat.reduceAdd, Nat.reduceMul, Nat.add_zero, Nat.zero_add, not_true_eq_false, not_false_eq_true, u_row, u_self, u_ne, cb_bi, cb_bv, cb_bl, hC'.i5, hg', hsk, e1]
      refine ⟨M', rfl, hF, hJ, hR, ?_⟩
      intro t ht
      rw [hI t ht]
      by_cases q : t = k
      · subst q
        unfold tr
        rw [if_neg (by omega), if_neg (by omega)]
      · rw [hgg t q])
  have hC' := hC.fx hF (fun a q => by omega)
  refine ⟨M', ?_, hF, hJ, hR, hI⟩
  refine Eq.trans e ?_
  rw [f63_5]
  simp (disch := omega) only [n_0, n_1, n_2, n_3, n_4, n_5, n_6, n_7, n_8, n_9, n_10, n_12, n_13, n_16, n_30, n_60, n_61, n_86, n_99, n_100, n_200, n_201, n_1023, n_65535, n_10000, n_1000000, ↓q_m1, q_add, q_addm, q_inB, q_cl, q_le, q_lt, q_eq, q_eqm, q_meq, q_mltT, q_ltm, q_lem, q_mleT, if_true, if_false, if_pos, if_neg, Nat.reduceAdd, Nat.reduceMul, Nat.add_zero, Nat.zero_add, not_true_eq_false, not_false_eq_true, u_row, u_self, u_ne, cb_bi, cb_bv, cb_bl, hC'.i5]
  split <;> rfl
