/-! ===== the model: its years ===== -/
theorem q_min99 (a : Nat) : (if a < 99 then nI a else nI 99) = nI (min 99 a) := by
  rw [Nat.min_def]
  by_cases h : a < 99
  · rw [if_pos h, if_neg (by omega)]
  · rw [if_neg h, if_pos (by omega)]
theorem n_56 : (56 : Int32) = nI 56 := rfl
theorem q_sltz {a b : Nat} (ha : a < 2147483648) (hb : b < 2147483648) : (nI a - nI b < nI 0) = (a < b) := by
  apply propext
  rw [Int32.lt_iff_toInt_lt, q_subI ha hb, nI_toInt (by omega)]
  omega
theorem g172x (z : Nat) (M : aM) (x : Int32) (k : Nat) : f172 z x (nI k) M = some (some (.inl ((x >>> (nI k &&& nI 31)) &&& nI 1)), M) := rfl
theorem g187 {z : Nat} {M : aM} {W : cW} (h : rM (M.1 206) W) (hW : wf W) {q : Nat} (hq : q < W 0 5) : f187 z (nI q) (nI 0) M = some (some (.inl (nI (W 4 q))), M) ∧ f187 z (nI q) (nI 1) M = some (some (.inl (nI (W 5 q))), M) ∧ f187 z (nI q) (nI 2) M = some (some (.inl (nI (W 6 q))), M) := by
  have hQ : W 0 5 ≤ 10 := hW.2.2.2.2.2.1
  have hq' := h.2.2.1 q hq
  refine ⟨?_, ?_, ?_⟩
  · unfold f187; simp (disch := omega) only [n_0, n_1, n_2, n_3, n_4, n_5, n_6, n_7, n_8, n_9, n_10, n_12, n_13, n_16, n_30, n_60, n_61, n_86, n_99, n_100, n_200, n_201, n_1023, n_65535, n_10000, n_1000000, ↓q_m1, q_add, q_addm, q_inB, q_cl, q_le, q_lt, q_eq, q_eqm, q_meq, q_mltT, q_ltm, q_lem, q_mleT, if_true, if_false, if_pos, if_neg, Nat.reduceAdd, Nat.reduceMul, Nat.add_zero, Nat.zero_add, Nat.one_mul, not_true_eq_false, not_false_eq_true, u_row, u_self, u_ne, cb_bi, cb_bv, cb_bl, n_56, q_mul, hq'.1]
  · unfold f187; simp (disch := omega) only [n_0, n_1, n_2, n_3, n_4, n_5, n_6, n_7, n_8, n_9, n_10, n_12, n_13, n_16, n_30, n_60, n_61, n_86, n_99, n_100, n_200, n_201, n_1023, n_65535, n_10000, n_1000000, ↓q_m1, q_add, q_addm, q_inB, q_cl, q_le, q_lt, q_eq, q_eqm, q_meq, q_mltT, q_ltm, q_lem, q_mleT, if_true, if_false, if_pos, if_neg, Nat.reduceAdd, Nat.reduceMul, Nat.add_zero, Nat.zero_add, Nat.one_mul, not_true_eq_false, not_false_eq_true, u_row, u_self, u_ne, cb_bi, cb_bv, cb_bl, n_56, q_mul, hq'.2.1]
  · unfold f187; simp (disch := omega) only [n_0, n_1, n_2, n_3, n_4, n_5, n_6, n_7, n_8, n_9, n_10, n_12, n_13, n_16, n_30, n_60, n_61, n_86, n_99, n_100, n_200, n_201, n_1023, n_65535, n_10000, n_1000000, ↓q_m1, q_add, q_addm, q_inB, q_cl, q_le, q_lt, q_eq, q_eqm, q_meq, q_mltT, q_ltm, q_lem, q_mleT, if_true, if_false, if_pos, if_neg, Nat.reduceAdd, Nat.reduceMul, Nat.add_zero, Nat.zero_add, Nat.one_mul, not_true_eq_false, not_false_eq_true, u_row, u_self, u_ne, cb_bi, cb_bv, cb_bl, n_56, q_mul, hq'.2.2]
def gF (a : Nat) : Prop := a = 205 ∨ 213 ≤ a ∧ a ≤ 223
def kG (M M' : aM) : Prop := Fx gF M M' ∧ ∀ j, j < 22 ∨ 25 < j → M'.1 205 j = M.1 205 j
theorem kG.id0 {M : aM} : kG M M := ⟨Fx.id0, fun _ _ => rfl⟩
theorem kG.trans {M M' M'' : aM} (h : kG M M') (h' : kG M' M'') : kG M M'' := ⟨h.1.trans h'.1, fun j a => (h'.2 j a).trans (h.2 j a)⟩
theorem kG.ofQ {M M' : aM} (h : kQ M M') : kG M M' := ⟨h.1.mono (fun a q => by unfold kS at q; unfold gF; omega), h.2⟩
theorem kG.r206 {M M' : aM} (h : kG M M') : M'.1 206 = M.1 206 := h.1.2 206 (by unfold gF; omega)
theorem kG.of {M M' : aM} (h : Fx (fun a => 213 ≤ a ∧ a ≤ 223) M M') : kG M M' := ⟨h.mono (fun a q => .inr q), fun j _ => by rw [h.2 205 (by omega)]⟩
def zR (M : aM) (W : cW) (Y : cY) (m : Nat) : Prop :=
  (∀ y, y < m → ∀ t, t < W 0 4 → M.1 218 (16 * y + t) = nI (Y y t))
  ∧ (∀ q, q < W 0 5 → M.1 220 q = nI (Y 30 q) ∧ M.1 221 q = nI (Y 31 q))
  ∧ (∀ q, q < W 0 5 → Y 30 q ≠ 0 → M.1 222 q = nI (Y 32 q) ∧ M.1 223 q = nI (Y 33 q) ∧ ∀ t, t < W 0 4 → M.1 219 (16 * q + t) = nI (Y (20 + q) t))
  ∧ (∀ t, t < W 0 4 → M.1 217 t = nI (Y 34 t))
  ∧ (∀ t, t < W 0 4 → M.1 216 t = nI (Y 35 t))
def zSt (M : aM) (W : cW) (m : Nat) (p : yS) : Prop := (∀ t, t < W 0 4 → M.1 213 t = nI (p.1 t)) ∧ zR M W p.2 m
def nt (p : Nat → Bool) : Nat → Bool := fun k => !p k
/-- sewAll -/
theorem m_sew {z : Nat} (hz : 2000 ≤ z) {M : aM} {W : cW} {y : Nat} {s : Nat → Nat} {gn : Nat → Bool} (hW : wf W) (h : rM (M.1 206) W) (hy2 : y < 12) (hg : hB (M.1 205 17) 16 (nt gn)) (hb : bd s) (hs : ∀ t, t < W 0 4 → M.1 213 t = nI (s t)) :
    ∃ M', f222 z (nI y) M = some (none, M') ∧ Fx (fun a => a = 213) M M' ∧ (∀ t, t < W 0 4 → M'.1 213 t = nI (fo (yL W gn y) s (W 0 6) t)) := by
  have hT : W 0 4 ≤ 16 := hW.2.2.2.2.1
  have hA : W 0 6 ≤ 30 := hW.2.2.2.2.2.2.1
  have hC8 : W 0 3 ≤ 8 := hW.2.2.2.1
  unfold f222
  simp only [n_0]
  obtain ⟨n, M', e, hF, hI⟩ := lr0 (fun n k M' => f222_2 z n (nI y) (nI k) M') (W 0 6) (fun k M' => Fx (fun a => a = 213) M M' ∧ (∀ t, t < W 0 4 → M'.1 213 t = nI (fo (yL W gn y) s k t))) z M (by omega) ⟨Fx.id0, hs⟩ (by
    intro n k M' hk hI
    obtain ⟨hF, hI⟩ := hI
    have h' : rM (M'.1 206) W := by rw [hF.2 206 (by decide)]; exact h
    have hg' : hB (M'.1 205 17) 16 (nt gn) := by rw [hF.2 205 (by decide)]; exact hg
    have hw := hW.2.2.2.2.2.2.2.2.2.2.1 k hk
    have hbk := fL_b (W := W) (gn := gn) (y := y) hb k
    have h6 : M'.1 206 6 = nI (W 0 6) := h'.1.2.2.2.2.2.2.1
    have hak := h'.2.2.2 k hk
    simp only [fo_s]
    generalize fo (yL W gn y) s k = s' at *
    have hbt := hbk (W 8 k)
    rw [f222_2]
    by_cases h0 : W 7 k = 0
    · have hw8 : W 8 k < W 0 4 ∧ W 9 k ≤ 60 ∧ W 10 k < 12 := by omega
      have ha : aE W k = 1000000 + (10000 * W 8 k + 100 * W 9 k + W 10 k) := by unfold aE; rw [if_pos h0]
      rw [ha] at hak
      have a1 : (1000000 + (10000 * W 8 k + 100 * W 9 k + W 10 k)) - 1000000 = 10000 * W 8 k + 100 * W 9 k + W 10 k := by omega
      have a2 : (10000 * W 8 k + 100 * W 9 k + W 10 k) % 100 = W 10 k := by omega
      have a3 : (10000 * W 8 k + 100 * W 9 k + W 10 k) / 10000 = W 8 k := by omega
      have a4 : (10000 * W 8 k + 100 * W 9 k + W 10 k) / 100 % 100 = W 9 k := by omega
      have a6 : (10000 * W 8 k + 100 * W 9 k + W 10 k) / 100 - (10000 * W 8 k + 100 * W 9 k + W 10 k) / 100 / 100 * 100 = W 9 k := by omega
      have a7 : (10000 * W 8 k + 100 * W 9 k + W 10 k) - (10000 * W 8 k + 100 * W 9 k + W 10 k) / 100 * 100 = W 10 k := by omega
      have a5 : (10000 * W 8 k + 100 * W 9 k + W 10 k) / 100 ≤ 10000 * W 8 k + 100 * W 9 k + W 10 k := Nat.div_le_self _ _
      have hgk := hg' (W 8 k) (by omega)
      by_cases h1 : W 10 k = y
      · by_cases h2 : gn (W 8 k) = false
        · simp only [nt, h2, Bool.not_false, if_true] at hgk
          simp only [yL, if_pos (show W 7 k = 0 ∧ W 10 k = y ∧ gn (W 8 k) = false from ⟨h0, h1, h2⟩)]
          simp (disch := omega) only [n_0, n_1, n_2, n_3, n_4, n_5, n_6, n_7, n_8, n_9, n_10, n_12, n_13, n_16, n_30, n_60, n_61, n_86, n_99, n_100, n_200, n_201, n_1023, n_65535, n_10000, n_1000000, ↓q_m1, q_add, q_addm, q_inB, q_cl, q_le, q_lt, q_eq, q_eqm, q_meq, q_mltT, q_ltm, q_lem, q_mleT, if_true, if_false, if_pos, if_neg, Nat.reduceAdd, Nat.reduceMul, Nat.add_zero, Nat.zero_add, Nat.one_mul, not_true_eq_false, not_false_eq_true, u_row, u_self, u_ne, cb_bi, cb_bv, cb_bl, h6, hak, q_sltz, q_sub, a1, q_div, q_mul, q_rem, a2, a3, a4, a6, a7, g172x, hgk, hI]
          refine ⟨_, rfl, Fx.w hF rfl, ?_⟩
          have e := q_min99 (s' (W 8 k) + W 9 k)
          rw [e]
          exact row_upg hI
        · have h3 : gn (W 8 k) = true := by simpa using h2
          simp only [nt, h3, Bool.not_true, Bool.false_eq_true, if_false] at hgk
          simp only [yL, if_neg (show ¬ (W 7 k = 0 ∧ W 10 k = y ∧ gn (W 8 k) = false) from fun q => h2 q.2.2)]
          simp (disch := omega) only [n_0, n_1, n_2, n_3, n_4, n_5, n_6, n_7, n_8, n_9, n_10, n_12, n_13, n_16, n_30, n_60, n_61, n_86, n_99, n_100, n_200, n_201, n_1023, n_65535, n_10000, n_1000000, ↓q_m1, q_add, q_addm, q_inB, q_cl, q_le, q_lt, q_eq, q_eqm, q_meq, q_mltT, q_ltm, q_lem, q_mleT, if_true, if_false, if_pos, if_neg, Nat.reduceAdd, Nat.reduceMul, Nat.add_zero, Nat.zero_add, Nat.one_mul, not_true_eq_false, not_false_eq_true, u_row, u_self, u_ne, cb_bi, cb_bv, cb_bl, h6, hak, q_sltz, q_sub, a1, q_div, q_mul, q_rem, a2, a3, a4, a6, a7, g172x, hgk]
          exact ⟨M', rfl, hF, hI⟩
      · simp only [yL, if_neg (show ¬ (W 7 k = 0 ∧ W 10 k = y ∧ gn (W 8 k) = false) from fun q => h1 q.2.1)]
        simp (disch := omega) only [n_0, n_1, n_2, n_3, n_4, n_5, n_6, n_7, n_8, n_9, n_10, n_12, n_13, n_16, n_30, n_60, n_61, n_86, n_99, n_100, n_200, n_201, n_1023, n_65535, n_10000, n_1000000, ↓q_m1, q_add, q_addm, q_inB, q_cl, q_le, q_lt, q_eq, q_eqm, q_meq, q_mltT, q_ltm, q_lem, q_mleT, if_true, if_false, if_pos, if_neg, Nat.reduceAdd, Nat.reduceMul, Nat.add_zero, Nat.zero_add, Nat.one_mul, not_true_eq_false, not_false_eq_true, u_row, u_self, u_ne, cb_bi, cb_bv, cb_bl, h6, hak, q_sltz, q_sub, a1, q_div, q_mul, q_rem, a2, a7]
        exact ⟨M', rfl, hF, hI⟩
    · have ha : aE W k = 0 + (10000 * W 8 k + 100 * W 9 k + W 10 k) := by unfold aE; rw [if_neg h0]
      rw [ha, Nat.zero_add] at hak
      simp only [yL, if_neg (show ¬ (W 7 k = 0 ∧ W 10 k = y ∧ gn (W 8 k) = false) from fun q => h0 q.1)]
      simp (disch := omega) only [n_0, n_1, n_2, n_3, n_4, n_5, n_6, n_7, n_8, n_9, n_10, n_12, n_13, n_16, n_30, n_60, n_61, n_86, n_99, n_100, n_200, n_201, n_1023, n_65535, n_10000, n_1000000, ↓q_m1, q_add, q_addm, q_inB, q_cl, q_le, q_lt, q_eq, q_eqm, q_meq, q_mltT, q_ltm, q_lem, q_mleT, if_true, if_false, if_pos, if_neg, Nat.reduceAdd, Nat.reduceMul, Nat.add_zero, Nat.zero_add, Nat.one_mul, not_true_eq_false, not_false_eq_true, u_row, u_self, u_ne, cb_bi, cb_bv, cb_bl, h6, hak, q_sltz]
      exact ⟨M', rfl, hF, hI⟩)
  have h' : rM (M'.1 206) W := by rw [hF.2 206 (by decide)]; exact h
  have h6 : M'.1 206 6 = nI (W 0 6) := h'.1.2.2.2.2.2.2.1
  refine ⟨M', ?_, hF, hI⟩
  refine Eq.trans e ?_
  rw [f222_2]
  simp (disch := omega) only [n_0, n_1, n_2, n_3, n_4, n_5, n_6, n_7, n_8, n_9, n_10, n_12, n_13, n_16, n_30, n_60, n_61, n_86, n_99, n_100, n_200, n_201, n_1023, n_65535, n_10000, n_1000000, ↓q_m1, q_add, q_addm, q_inB, q_cl, q_le, q_lt, q_eq, q_eqm, q_meq, q_mltT, q_ltm, q_lem, q_mleT, if_true, if_false, if_pos, if_neg, Nat.reduceAdd, Nat.reduceMul, Nat.add_zero, Nat.zero_add, Nat.one_mul, not_true_eq_false, not_false_eq_true, u_row, u_self, u_ne, cb_bi, cb_bv, cb_bl, h6]
/-- keepQuarrel -/
theorem m_keep {z : Nat} (hz : 2000 ≤ z) {M : aM} {q : Nat} (hq : q < 10) :
    ∃ M', f221 z (nI q) M = some (none, M') ∧ Fx (fun a => 219 ≤ a ∧ a ≤ 223) M M' ∧ (∀ i, M'.1 220 i = if i = q then M.1 205 24 else M.1 220 i) ∧ (∀ i, M'.1 221 i = if i = q then M.1 205 25 else M.1 221 i) ∧ (∀ i, M'.1 222 i = if i = q then M.1 205 22 else M.1 222 i) ∧ (∀ i, M'.1 223 i = if i = q then M.1 205 23 else M.1 223 i) ∧ (∀ i t, t < 16 → M'.1 219 (16 * i + t) = if i = q then M.1 214 t else M.1 219 (16 * i + t)) := by
  unfold f221 f221_40
  simp (disch := omega) only [n_0, n_1, n_2, n_3, n_4, n_5, n_6, n_7, n_8, n_9, n_10, n_12, n_13, n_16, n_30, n_60, n_61, n_86, n_99, n_100, n_200, n_201, n_1023, n_65535, n_10000, n_1000000, ↓q_m1, q_add, q_addm, q_inB, q_cl, q_le, q_lt, q_eq, q_eqm, q_meq, q_mltT, q_ltm, q_lem, q_mleT, if_true, if_false, if_pos, if_neg, Nat.reduceAdd, Nat.reduceMul, Nat.add_zero, Nat.zero_add, Nat.one_mul, not_true_eq_false, not_false_eq_true, u_row, u_self, u_ne, cb_bi, cb_bv, cb_bl]
  generalize hM1 : ((am_u (am_u (am_u (am_u M.1 220 q (M.1 205 24)) 221 q (M.1 205 25)) 222 q (M.1 205 22)) 223 q (M.1 205 23), M.2) : aM) = M1
  have hF1 : Fx (fun a => 219 ≤ a ∧ a ≤ 223) M M1 := by
    rw [← hM1]
    exact Fx.w (Fx.w (Fx.w (Fx.w Fx.id0 (by omega)) (by omega)) (by omega)) (by omega)
  obtain ⟨n, M', e, hF, hI, hI2⟩ := lr0 (fun n k M' => f221_42 z n (nI q) (nI k) M') 16 (fun k M' => Fx (fun a => a = 219) M1 M' ∧ (∀ t, t < k → M'.1 219 (16 * q + t) = M.1 214 t) ∧ (∀ j, (j < 16 * q ∨ 16 * q + k ≤ j) → M'.1 219 j = M.1 219 j)) z M1 (by omega) ⟨Fx.id0, fun t ht => by omega, fun j _ => by rw [← hM1]; simp (disch := omega) only [u_row]⟩ (by
    intro n k M' hk hI
    obtain ⟨hF, hI, hI2⟩ := hI
    have h214 : M'.1 214 = M.1 214 := by rw [hF.2 214 (by decide), hF1.2 214 (by omega)]
    rw [f221_42]
    simp (disch := omega) only [n_0, n_1, n_2, n_3, n_4, n_5, n_6, n_7, n_8, n_9, n_10, n_12, n_13, n_16, n_30, n_60, n_61, n_86, n_99, n_100, n_200, n_201, n_1023, n_65535, n_10000, n_1000000, ↓q_m1, q_add, q_addm, q_inB, q_cl, q_le, q_lt, q_eq, q_eqm, q_meq, q_mltT, q_ltm, q_lem, q_mleT, if_true, if_false, if_pos, if_neg, Nat.reduceAdd, Nat.reduceMul, Nat.add_zero, Nat.zero_add, Nat.one_mul, not_true_eq_false, not_false_eq_true, u_row, u_self, u_ne, cb_bi, cb_bv, cb_bl, q_mul, h214]
    refine ⟨_, rfl, Fx.w hF rfl, ?_, ?_⟩
    · intro t ht
      simp only [u_at]
      by_cases e : t = k
      · rw [if_pos (by omega), e]
      · rw [if_neg (by omega)]
        exact hI t (by omega)
    · intro j hj
      simp only [u_at]
      rw [if_neg (by omega)]
      exact hI2 j (by omega))
  have k1 : ∀ a, a ≠ 219 → M'.1 a = M1.1 a := fun a ha => hF.2 a ha
  refine ⟨M', ?_, hF1.trans (hF.mono (fun a q => by omega)), ?_, ?_, ?_, ?_, ?_⟩
  · refine Eq.trans e ?_
    rw [f221_42]
    simp (disch := omega) only [n_0, n_1, n_2, n_3, n_4, n_5, n_6, n_7, n_8, n_9, n_10, n_12, n_13, n_16, n_30, n_60, n_61, n_86, n_99, n_100, n_200, n_201, n_1023, n_65535, n_10000, n_1000000, ↓q_m1, q_add, q_addm, q_inB, q_cl, q_le, q_lt, q_eq, q_eqm, q_meq, q_mltT, q_ltm, q_lem, q_mleT, if_true, if_false, if_pos, if_neg, Nat.reduceAdd, Nat.reduceMul, Nat.add_zero, Nat.zero_add, Nat.one_mul, not_true_eq_false, not_false_eq_true, u_row, u_self, u_ne, cb_bi, cb_bv, cb_bl]
  · intro i
    rw [k1 _ (by omega), ← hM1]
    simp (disch := omega) only [u_row, u_at]
  · intro i
    rw [k1 _ (by omega), ← hM1]
    simp (disch := omega) only [u_row, u_at]
  · intro i
    rw [k1 _ (by omega), ← hM1]
    simp (disch := omega) only [u_row, u_at]
  · intro i
    rw [k1 _ (by omega), ← hM1]
    simp (disch := omega) only [u_row, u_at]
  · intro i t ht
    by_cases e : i = q
    · rw [if_pos e, e]; exact hI t ht
    · rw [if_neg e]
      exact hI2 _ (by omega)
/-- a quarrel is borne -/
theorem m_bear {z : Nat} (hz : 2000 ≤ z) {M : aM} {W : cW} (h : rM (M.1 206) W) (hW : wf W) {m law c n0 : Nat} {p : yS} (hl : M.1 205 16 = nI law) (hl3 : law ≤ 3) (h200 : n0 ≤ 200) (hc : c < W 0 3) (hb : bd p.1) (hm : m ≤ 13) (hS : zSt M W m p) :
    ∃ M', f220 z (nI c) (nI n0) M = some (none, M') ∧ kG M M' ∧ zSt M' W m (yA W law c n0 p) ∧ mX M' (qd W law c n0 p.1).2.1 ∧ M'.1 205 24 = nI (qd W law c n0 p.1).2.2.1 ∧ M'.1 205 25 = nI (qd W law c n0 p.1).2.2.2 := by
  obtain ⟨h1, a1, a2, a3, a4, a5⟩ := hS
  obtain ⟨M', e1, e2, e3, e4, e5, e6, e7, e8⟩ := m_quarrel hz h hW h1 hb hc hl hl3 h200 a5 a4
  refine ⟨M', e1, kG.ofQ e2, ⟨e3, ?_, ?_, ?_, ?_, ?_⟩, e4, e5, e6⟩
  · intro y hy
    rw [e2.r (by unfold kS; omega)]
    simp (disch := omega) only [yA, yu_n]
    exact a1 y hy
  · intro q hq
    rw [e2.r (a := 220) (by unfold kS; omega), e2.r (a := 221) (by unfold kS; omega)]
    simp (disch := omega) only [yA, yu_n]
    exact a2 q hq
  · intro q hq
    have hQ : W 0 5 ≤ 10 := hW.2.2.2.2.2.1
    rw [e2.r (a := 222) (by unfold kS; omega), e2.r (a := 223) (by unfold kS; omega), e2.r (a := 219) (by unfold kS; omega)]
    simp (disch := omega) only [yA, yu_n]
    exact a3 q hq
  · simp (disch := omega) only [yA, yu_n, yu_s]
    exact e8
  · simp (disch := omega) only [yA, yu_n, yu_s]
    exact e7
/-- goYear -/
theorem m_year {z : Nat} (hz : 2000 ≤ z) {M : aM} {W : cW} (h : rM (M.1 206) W) (hW : wf W) {m law y : Nat} {p : yS} {gn hd : Nat → Bool} (hl : M.1 205 16 = nI law) (hl3 : law ≤ 3) (hg : hB (M.1 205 17) 16 (nt gn)) (hh : hB (M.1 205 18) 10 (nt hd)) (hb : bd p.1) (hy : y < 12) (hm : m ≤ 13) (hS : zSt M W m p) :
    ∃ M', f223 z (nI y) M = some (none, M') ∧ kG M M' ∧ zSt M' W m (yY W law gn hd y p) := by
  have hT : W 0 4 ≤ 16 := hW.2.2.2.2.1
  have hQ : W 0 5 ≤ 10 := hW.2.2.2.2.2.1
  have hC8 : W 0 3 ≤ 8 := hW.2.2.2.1
  have hA : W 0 6 ≤ 30 := hW.2.2.2.2.2.2.1
  obtain ⟨M1, s1, s2, s3⟩ := m_sew hz hW h hy hg hb hS.1
  have hK1 : kG M M1 := kG.of (s2.mono (fun a q => by omega))
  have k1 : ∀ a, a ≠ 213 → M1.1 a = M.1 a := fun a ha => s2.2 a ha
  have hS1 : zSt M1 W m (fo (yL W gn y) p.1 (W 0 6), p.2) := by
    obtain ⟨_, a1, a2, a3, a4, a5⟩ := hS
    refine ⟨s3, ?_⟩
    unfold zR
    rw [k1 218 (by decide), k1 220 (by decide), k1 221 (by decide), k1 222 (by decide), k1 223 (by decide), k1 219 (by decide), k1 217 (by decide), k1 216 (by decide)]
    exact ⟨a1, a2, a3, a4, a5⟩
  have hb1 : bd (fo (yL W gn y) p.1 (W 0 6)) := fL_b hb _
  unfold f223 yY
  rw [s1, cb_bv]
  simp only [n_0]
  obtain ⟨p1, hp1⟩ : ∃ p1 : yS, p1 = (fo (yL W gn y) p.1 (W 0 6), p.2) := ⟨_, rfl⟩
  rw [← hp1] at hS1 ⊢
  have hbp : bd p1.1 := by rw [hp1]; exact hb1
  obtain ⟨n2, M2, e2, hK2, hS2⟩ := lr0 (fun n k M' => f223_7 z n (nI y) (nI k) M') (W 0 5) (fun k M' => kG M M' ∧ zSt M' W m (fo (yT W law hd y) p1 k)) z M1 (by omega) ⟨hK1, hS1⟩ (by
    intro n k M' hk hI
    obtain ⟨hK, hI⟩ := hI
    have h' : rM (M'.1 206) W := by rw [hK.r206]; exact h
    have hl' : M'.1 205 16 = nI law := by rw [hK.2 16 (by omega)]; exact hl
    have hh' : hB (M'.1 205 18) 10 (nt hd) := by rw [hK.2 18 (by omega)]; exact hh
    have hw := hW.2.2.2.2.2.2.2.2.2.1 k hk
    have hbk := fT_b (law := law) (hd := hd) (y := y) hW hbp k
    have hgk := hh' k (by omega)
    simp only [fo_s]
    generalize fo (yT W law hd y) p1 k = p' at *
    obtain ⟨v0, v1, v2⟩ := g187 (z := z) h' hW hk
    rw [f223_7, g179 h', cb_bi]
    by_cases h1 : W 6 k = y
    · by_cases h2 : hd k = false
      · simp only [nt, h2, Bool.not_false, if_true] at hgk
        simp only [yT, if_pos (show W 6 k = y ∧ hd k = false from ⟨h1, h2⟩)]
        obtain ⟨M3, b1, b2, b3, b4, b5, b6⟩ := m_bear hz (law := law) (c := W 4 k) (n0 := W 5 k) h' hW hl' hl3 (by omega) hw.1 hbk hm hI
        obtain ⟨M4, c1, c2, c3, c4, c5, c6, c7⟩ := m_keep (z := z) (M := M3) hz (q := k) (by omega)
        simp (disch := omega) only [n_0, n_1, n_2, n_3, n_4, n_5, n_6, n_7, n_8, n_9, n_10, n_12, n_13, n_16, n_30, n_60, n_61, n_86, n_99, n_100, n_200, n_201, n_1023, n_65535, n_10000, n_1000000, ↓q_m1, q_add, q_addm, q_inB, q_cl, q_le, q_lt, q_eq, q_eqm, q_meq, q_mltT, q_ltm, q_lem, q_mleT, if_true, if_false, if_pos, if_neg, Nat.reduceAdd, Nat.reduceMul, Nat.add_zero, Nat.zero_add, Nat.one_mul, not_true_eq_false, not_false_eq_true, u_row, u_self, u_ne, cb_bi, cb_bv, cb_bl, v0, v1, v2, g172x, hgk, h1, b1, c1]
        refine ⟨M4, rfl, (hK.trans b2).trans (kG.of (c2.mono (fun a q => by omega))), ?_⟩
        obtain ⟨x1, a1, a2, a3, a4, a5⟩ := b3
        have k3 : ∀ a, ¬ (219 ≤ a ∧ a ≤ 223) → M4.1 a = M3.1 a := fun a q => c2.2 a q
        refine ⟨?_, ?_, ?_, ?_, ?_, ?_⟩
        · rw [k3 213 (by omega)]; exact x1
        · intro y' hy'
          rw [k3 _ (by omega)]
          simp (disch := omega) only [yN, yu_n]
          exact a1 y' hy'
        · intro q hq
          rw [c3, c4, b5, b6, (a2 q hq).1, (a2 q hq).2]
          simp (disch := omega) only [yN, yu_n, yu_s, up]
          refine ⟨?_, ?_⟩ <;> (split <;> rfl)
        · intro q hq h30
          by_cases e : q = k
          · subst e
            rw [c5, c6, if_pos rfl, if_pos rfl]
            simp (disch := omega) only [yN, yu_n, yu_s, up, if_true]
            refine ⟨b4.2.2.1, b4.2.2.2, fun t ht => ?_⟩
            rw [c7 q t (by omega), if_pos rfl]
            exact b4.1 t (by omega)
          · simp (disch := omega) only [yN, yu_n, yu_s, up, if_neg e] at h30 ⊢
            obtain ⟨i1, i2, i3⟩ := a3 q hq h30
            rw [c5, c6, if_neg e, if_neg e]
            refine ⟨i1, i2, fun t ht => ?_⟩
            rw [c7 q t (by omega), if_neg e]
            exact i3 t ht
        · rw [k3 _ (by omega)]
          simp (disch := omega) only [yN, yu_n]
          exact a4
        · rw [k3 _ (by omega)]
          simp (disch := omega) only [yN, yu_n]
          exact a5
      · have h3 : hd k = true := by simpa using h2
        simp only [nt, h3, Bool.not_true, Bool.false_eq_true, if_false] at hgk
        simp only [yT, if_neg (show ¬ (W 6 k = y ∧ hd k = false) from fun q => h2 q.2)]
        simp (disch := omega) only [n_0, n_1, n_2, n_3, n_4, n_5, n_6, n_7, n_8, n_9, n_10, n_12, n_13, n_16, n_30, n_60, n_61, n_86, n_99, n_100, n_200, n_201, n_1023, n_65535, n_10000, n_1000000, ↓q_m1, q_add, q_addm, q_inB, q_cl, q_le, q_lt, q_eq, q_eqm, q_meq, q_mltT, q_ltm, q_lem, q_mleT, if_true, if_false, if_pos, if_neg, Nat.reduceAdd, Nat.reduceMul, Nat.add_zero, Nat.zero_add, Nat.one_mul, not_true_eq_false, not_false_eq_true, u_row, u_self, u_ne, cb_bi, cb_bv, cb_bl, v0, v1, v2, g172x, hgk, h1]
        exact ⟨M', rfl, hK, hI⟩
    · simp only [yT, if_neg (show ¬ (W 6 k = y ∧ hd k = false) from fun q => h1 q.1)]
      simp (disch := omega) only [n_0, n_1, n_2, n_3, n_4, n_5, n_6, n_7, n_8, n_9, n_10, n_12, n_13, n_16, n_30, n_60, n_61, n_86, n_99, n_100, n_200, n_201, n_1023, n_65535, n_10000, n_1000000, ↓q_m1, q_add, q_addm, q_inB, q_cl, q_le, q_lt, q_eq, q_eqm, q_meq, q_mltT, q_ltm, q_lem, q_mleT, if_true, if_false, if_pos, if_neg, Nat.reduceAdd, Nat.reduceMul, Nat.add_zero, Nat.zero_add, Nat.one_mul, not_true_eq_false, not_false_eq_true, u_row, u_self, u_ne, cb_bi, cb_bv, cb_bl, v0, v1, v2, h1]
      exact ⟨M', rfl, hK, hI⟩)
  have h2 : rM (M2.1 206) W := by rw [hK2.r206]; exact h
  rw [e2, f223_7, g179 h2, cb_bi]
  simp (disch := omega) only [n_0, n_1, n_2, n_3, n_4, n_5, n_6, n_7, n_8, n_9, n_10, n_12, n_13, n_16, n_30, n_60, n_61, n_86, n_99, n_100, n_200, n_201, n_1023, n_65535, n_10000, n_1000000, ↓q_m1, q_add, q_addm, q_inB, q_cl, q_le, q_lt, q_eq, q_eqm, q_meq, q_mltT, q_ltm, q_lem, q_mleT, if_true, if_false, if_pos, if_neg, Nat.reduceAdd, Nat.reduceMul, Nat.add_zero, Nat.zero_add, Nat.one_mul, not_true_eq_false, not_false_eq_true, u_row, u_self, u_ne, cb_bi, cb_bv, cb_bl]
  obtain ⟨p2, hp2⟩ : ∃ p2 : yS, p2 = fo (yT W law hd y) p1 (W 0 5) := ⟨_, rfl⟩
  rw [← hp2] at hS2 ⊢
  have hbp2 : bd p2.1 := by rw [hp2]; exact fT_b hW hbp _
  obtain ⟨n3, M3, e3, hK3, hS3⟩ := lr0 (fun n k M' => f223_68 z n (nI y) (nI k) M') (W 0 6) (fun k M' => kG M M' ∧ zSt M' W m (fo (yB W law y) p2 k)) z M2 (by omega) ⟨hK2, hS2⟩ (by
    intro n k M' hk hI
    obtain ⟨hK, hI⟩ := hI
    have h' : rM (M'.1 206) W := by rw [hK.r206]; exact h
    have hl' : M'.1 205 16 = nI law := by rw [hK.2 16 (by omega)]; exact hl
    have hw := hW.2.2.2.2.2.2.2.2.2.2.1 k hk
    have hbk := fB_b (law := law) (y := y) hW hbp2 k
    have h6 : M'.1 206 6 = nI (W 0 6) := h'.1.2.2.2.2.2.2.1
    have hak := h'.2.2.2 k hk
    simp only [fo_s]
    generalize fo (yB W law y) p2 k = p' at *
    rw [f223_68]
    by_cases h0 : W 7 k = 1
    · have hw8 : W 8 k < W 0 3 ∧ W 9 k ≤ 90 ∧ W 10 k < 12 := by omega
      have ha : aE W k = 0 + (10000 * W 8 k + 100 * W 9 k + W 10 k) := by unfold aE; rw [if_neg (by omega)]
      rw [ha, Nat.zero_add] at hak
      have a2 : (10000 * W 8 k + 100 * W 9 k + W 10 k) % 100 = W 10 k := by omega
      have a3 : (10000 * W 8 k + 100 * W 9 k + W 10 k) / 10000 = W 8 k := by omega
      have a4 : (10000 * W 8 k + 100 * W 9 k + W 10 k) / 100 % 100 = W 9 k := by omega
      have a6 : (10000 * W 8 k + 100 * W 9 k + W 10 k) / 100 - (10000 * W 8 k + 100 * W 9 k + W 10 k) / 100 / 100 * 100 = W 9 k := by omega
      have a7 : (10000 * W 8 k + 100 * W 9 k + W 10 k) - (10000 * W 8 k + 100 * W 9 k + W 10 k) / 100 * 100 = W 10 k := by omega
      have a5 : (10000 * W 8 k + 100 * W 9 k + W 10 k) / 100 ≤ 10000 * W 8 k + 100 * W 9 k + W 10 k := Nat.div_le_self _ _
      by_cases h1 : W 10 k = y
      · simp only [yB, if_pos (show W 7 k = 1 ∧ W 10 k = y from ⟨h0, h1⟩)]
        obtain ⟨M4, b1, b2, b3, _⟩ := m_bear hz (law := law) (c := W 8 k) (n0 := W 9 k) h' hW hl' hl3 (by omega) hw8.1 hbk hm hI
        simp (disch := omega) only [n_0, n_1, n_2, n_3, n_4, n_5, n_6, n_7, n_8, n_9, n_10, n_12, n_13, n_16, n_30, n_60, n_61, n_86, n_99, n_100, n_200, n_201, n_1023, n_65535, n_10000, n_1000000, ↓q_m1, q_add, q_addm, q_inB, q_cl, q_le, q_lt, q_eq, q_eqm, q_meq, q_mltT, q_ltm, q_lem, q_mleT, if_true, if_false, if_pos, if_neg, Nat.reduceAdd, Nat.reduceMul, Nat.add_zero, Nat.zero_add, Nat.one_mul, not_true_eq_false, not_false_eq_true, u_row, u_self, u_ne, cb_bi, cb_bv, cb_bl, h6, hak, q_div, q_mul, q_rem, a2, a3, a4, a6, a7, b1]
        exact ⟨M4, rfl, hK.trans b2, b3⟩
      · simp only [yB, if_neg (show ¬ (W 7 k = 1 ∧ W 10 k = y) from fun q => h1 q.2)]
        simp (disch := omega) only [n_0, n_1, n_2, n_3, n_4, n_5, n_6, n_7, n_8, n_9, n_10, n_12, n_13, n_16, n_30, n_60, n_61, n_86, n_99, n_100, n_200, n_201, n_1023, n_65535, n_10000, n_1000000, ↓q_m1, q_add, q_addm, q_inB, q_cl, q_le, q_lt, q_eq, q_eqm, q_meq, q_mltT, q_ltm, q_lem, q_mleT, if_true, if_false, if_pos, if_neg, Nat.reduceAdd, Nat.reduceMul, Nat.add_zero, Nat.zero_add, Nat.one_mul, not_true_eq_false, not_false_eq_true, u_row, u_self, u_ne, cb_bi, cb_bv, cb_bl, h6, hak, q_div, q_mul, q_rem, a2, a7]
        exact ⟨M', rfl, hK, hI⟩
    · have ha : aE W k = 1000000 + (10000 * W 8 k + 100 * W 9 k + W 10 k) := by unfold aE; rw [if_pos (by omega)]
      rw [ha] at hak
      simp only [yB, if_neg (show ¬ (W 7 k = 1 ∧ W 10 k = y) from fun q => h0 q.1)]
      simp (disch := omega) only [n_0, n_1, n_2, n_3, n_4, n_5, n_6, n_7, n_8, n_9, n_10, n_12, n_13, n_16, n_30, n_60, n_61, n_86, n_99, n_100, n_200, n_201, n_1023, n_65535, n_10000, n_1000000, ↓q_m1, q_add, q_addm, q_inB, q_cl, q_le, q_lt, q_eq, q_eqm, q_meq, q_mltT, q_ltm, q_lem, q_mleT, if_true, if_false, if_pos, if_neg, Nat.reduceAdd, Nat.reduceMul, Nat.add_zero, Nat.zero_add, Nat.one_mul, not_true_eq_false, not_false_eq_true, u_row, u_self, u_ne, cb_bi, cb_bv, cb_bl, h6, hak]
      exact ⟨M', rfl, hK, hI⟩)
  have h3 : rM (M3.1 206) W := by rw [hK3.r206]; exact h
  have h6 : M3.1 206 6 = nI (W 0 6) := h3.1.2.2.2.2.2.2.1
  refine ⟨M3, ?_, hK3, hS3⟩
  refine Eq.trans e3 ?_
  rw [f223_68]
  simp (disch := omega) only [n_0, n_1, n_2, n_3, n_4, n_5, n_6, n_7, n_8, n_9, n_10, n_12, n_13, n_16, n_30, n_60, n_61, n_86, n_99, n_100, n_200, n_201, n_1023, n_65535, n_10000, n_1000000, ↓q_m1, q_add, q_addm, q_inB, q_cl, q_le, q_lt, q_eq, q_eqm, q_meq, q_mltT, q_ltm, q_lem, q_mleT, if_true, if_false, if_pos, if_neg, Nat.reduceAdd, Nat.reduceMul, Nat.add_zero, Nat.zero_add, Nat.one_mul, not_true_eq_false, not_false_eq_true, u_row, u_self, u_ne, cb_bi, cb_bv, cb_bl, h6]
