/-! ===== the class: live ===== -/
def ySt (M : aM) (y0 : Nat) (W : cW) (r m : Nat) (p : yS) : Prop := (∀ t, t < W 0 4 → M.1 r t = nI (p.1 t)) ∧ yR M y0 W p.2 m
def hB (x : Int32) (n : Nat) (p : Nat → Bool) : Prop := ∀ k, k < n → (x >>> (nI k &&& nI 31)) &&& nI 1 = nI (if p k = true then 1 else 0)
/-- a quarrel is borne: drag and addUp -/
theorem c_bear {z : Nat} (hz : 2000 ≤ z) {M : aM} {W : cW} {y0 r m law c n0 : Nat} {p : yS} (hW : wf W) (hC : rC M 18 W) (hy : 32 ≤ y0) (hm : m < 12) (hr : r = y0 + 2 + (m + 1)) (hl3 : law ≤ 3) (h200 : n0 ≤ 200) (hc : c < 8) (hb : bd p.1) (hS : ySt M y0 W r m p) :
    ∃ M1 M', f56 z (y0 + 32) 18 (nI law) r (nI c) (nI n0) M = some (none, M1) ∧ f78 z y0 18 M1 = some (none, M') ∧ Fx (yF y0) M M' ∧ ySt M' y0 W r m (yA W law c n0 p) ∧ tX M' (y0 + 32) (qd W law c n0 p.1).2.1 ∧ M'.1 (y0 + 32) 1 = nI (qd W law c n0 p.1).2.2.1 ∧ M'.1 (y0 + 32) 2 = nI (qd W law c n0 p.1).2.2.2 := by
  obtain ⟨h1, a1, a2, a3, a4, a5⟩ := hS
  obtain ⟨M1, d1, d2, d3, d4, d5, d6⟩ := c_drag hz hW hC (u := y0 + 32) (r := r) (law := law) (c := c) (n0 := n0) (by omega) (by omega) (by omega) (by omega) (by omega) hl3 h200 hc h1 hb
  have k1 : ∀ a, a ≠ y0 + 32 → a ≠ y0 + 33 → a ≠ y0 + 34 → a ≠ r → M1.1 a = M.1 a := fun a b1 b2 b3 b4 => d2.2 a (by unfold dS; omega)
  have hC1 := hC.fx d2 (fun a q => by unfold dS at q; omega)
  obtain ⟨M', e1, e2, e3, e4⟩ := c_addUp hz (y0 := y0) hW hC1 hy (g := (qd W law c n0 p.1).2.1.1) (be := p.2 34) (wo := p.2 35) d4.1 (fun t => by have := qd_sh hW law c n0 p.1 t; omega) (by rw [k1 (y0 + 30) (by omega) (by omega) (by omega) (by omega)]; exact a4) (by rw [k1 (y0 + 31) (by omega) (by omega) (by omega) (by omega)]; exact a5)
  have k2 : ∀ a, a ≠ y0 + 30 → a ≠ y0 + 31 → M'.1 a = M1.1 a := fun a b1 b2 => e2.2 a (by omega)
  refine ⟨M1, M', d1, e1, (d2.mono (fun a q => by unfold dS at q; unfold yF; omega)).trans (e2.mono (fun a q => by unfold yF; omega)), ⟨?_, ?_, ?_, ?_, ?_, ?_⟩, ⟨?_, ?_, ?_, ?_⟩, ?_, ?_⟩
  · rw [k2 r (by omega) (by omega)]; exact d3
  · intro y hy2
    rw [k2 _ (by omega) (by omega), k1 _ (by omega) (by omega) (by omega) (by omega)]
    simp (disch := omega) only [yA, yu_n]
    exact a1 y hy2
  · intro q hq
    rw [k2 _ (by omega) (by omega), k2 _ (by omega) (by omega), k2 _ (by omega) (by omega), k2 _ (by omega) (by omega), k1 _ (by omega) (by omega) (by omega) (by omega), k1 _ (by omega) (by omega) (by omega) (by omega), k1 _ (by omega) (by omega) (by omega) (by omega), k1 _ (by omega) (by omega) (by omega) (by omega)]
    simp (disch := omega) only [yA, yu_n]
    exact a2 q hq
  · intro q hq
    have hq10 : W 0 5 ≤ 10 := hW.2.2.2.2.2.1
    rw [k2 _ (by omega) (by omega), k1 _ (by omega) (by omega) (by omega) (by omega)]
    simp (disch := omega) only [yA, yu_n]
    exact a3 q hq
  · simp (disch := omega) only [yA, yu_n, yu_s]
    exact e3
  · simp (disch := omega) only [yA, yu_n, yu_s]
    exact e4
  · rw [k2 _ (by omega) (by omega)]; exact d4.1
  · rw [k2 _ (by omega) (by omega)]; exact d4.2.1
  · rw [k2 _ (by omega) (by omega)]; exact d4.2.2.1
  · rw [k2 _ (by omega) (by omega)]; exact d4.2.2.2
  · rw [k2 _ (by omega) (by omega)]; exact d5
  · rw [k2 _ (by omega) (by omega)]; exact d6
/-- letIn -/
theorem c_letIn {z : Nat} (hz : 2000 ≤ z) {M : aM} {W : cW} {y0 r y : Nat} {s : Nat → Nat} {gn : Nat → Bool} (hW : wf W) (hC : rC M 18 W) (hy : 32 ≤ y0) (hr : y0 + 2 ≤ r) (hy2 : y < 12) (hg : hB (M.1 y0 1) 16 gn) (hb : bd s) (hs : ∀ t, t < W 0 4 → M.1 r t = nI (s t)) :
    ∃ M', f76 z y0 27 (nI y) r M = some (none, M') ∧ Fx (fun a => a = r) M M' ∧ (∀ t, t < W 0 4 → M'.1 r t = nI (fo (yL W gn y) s (W 0 6) t)) := by
  have hT : W 0 4 ≤ 16 := hW.2.2.2.2.1
  have hA : W 0 6 ≤ 30 := hW.2.2.2.2.2.2.1
  have hC8 : W 0 3 ≤ 8 := hW.2.2.2.1
  unfold f76
  simp only [n_0]
  obtain ⟨n, M', e, hF, hI⟩ := lr0 (fun n k M' => f76_3 z n y0 27 (nI y) r (nI k) M') (W 0 6) (fun k M' => Fx (fun a => a = r) M M' ∧ (∀ t, t < W 0 4 → M'.1 r t = nI (fo (yL W gn y) s k t))) z M (by omega) ⟨Fx.id0, hs⟩ (by
    intro n k M' hk hI
    obtain ⟨hF, hI⟩ := hI
    have hC' := hC.fx hF (fun a q => by omega)
    have hg' : hB (M'.1 y0 1) 16 gn := by rw [hF.2 y0 (by omega)]; exact hg
    have hw := hW.2.2.2.2.2.2.2.2.2.2.1 k hk
    have hbk := fL_b (W := W) (gn := gn) (y := y) hb k
    simp only [fo_s]
    generalize fo (yL W gn y) s k = s' at *
    have hbt := hbk (W 8 k)
    rw [f76_3]
    unfold yL
    by_cases h0 : W 7 k = 0
    · have hw8 : W 8 k < W 0 4 ∧ W 9 k ≤ 60 ∧ W 10 k < 12 := by omega
      by_cases h1 : W 10 k = y
      · have hgk := hg' (W 8 k) (by omega)
        by_cases h2 : gn (W 8 k) = false
        · simp only [h2, Bool.false_eq_true, if_false] at hgk
          simp (disch := omega) only [n_0, n_1, n_2, n_3, n_4, n_5, n_6, n_7, n_8, n_9, n_10, n_12, n_13, n_16, n_30, n_60, n_61, n_86, n_99, n_100, n_200, n_201, n_1023, n_65535, n_10000, n_1000000, ↓q_m1, q_add, q_addm, q_inB, q_cl, q_le, q_lt, q_eq, q_eqm, q_meq, q_mltT, q_ltm, q_lem, q_mleT, if_true, if_false, if_pos, if_neg, Nat.reduceAdd, Nat.reduceMul, Nat.add_zero, Nat.zero_add, Nat.one_mul, not_true_eq_false, not_false_eq_true, u_row, u_self, u_ne, cb_bi, cb_bv, cb_bl, hC'.na, hC'.ak, hC'.aa, hC'.an, hC'.ay, n_31, hgk, hI, h0, h1, h2, and_self, ne_eq]
          refine ⟨_, rfl, Fx.w hF rfl, ?_⟩
          have e : (if s' (W 8 k) + W 9 k < 99 then nI (s' (W 8 k) + W 9 k) else nI 99) = nI (min 99 (s' (W 8 k) + W 9 k)) := by
            rw [Nat.min_def]
            split
            · rw [if_neg (by omega)]
            · split
              · rfl
              · congr 1; omega
          rw [e]
          exact row_upg hI
        · have h3 : gn (W 8 k) = true := by simpa using h2
          simp only [h3, if_true] at hgk
          simp (disch := omega) only [n_0, n_1, n_2, n_3, n_4, n_5, n_6, n_7, n_8, n_9, n_10, n_12, n_13, n_16, n_30, n_60, n_61, n_86, n_99, n_100, n_200, n_201, n_1023, n_65535, n_10000, n_1000000, ↓q_m1, q_add, q_addm, q_inB, q_cl, q_le, q_lt, q_eq, q_eqm, q_meq, q_mltT, q_ltm, q_lem, q_mleT, if_true, if_false, if_pos, if_neg, Nat.reduceAdd, Nat.reduceMul, Nat.add_zero, Nat.zero_add, Nat.one_mul, not_true_eq_false, not_false_eq_true, u_row, u_self, u_ne, cb_bi, cb_bv, cb_bl, hC'.na, hC'.ak, hC'.aa, hC'.an, hC'.ay, n_31, hgk, hI, h0, h1, h2, and_self, and_false, ne_eq]
          exact ⟨M', rfl, hF, hI⟩
      · simp (disch := omega) only [n_0, n_1, n_2, n_3, n_4, n_5, n_6, n_7, n_8, n_9, n_10, n_12, n_13, n_16, n_30, n_60, n_61, n_86, n_99, n_100, n_200, n_201, n_1023, n_65535, n_10000, n_1000000, ↓q_m1, q_add, q_addm, q_inB, q_cl, q_le, q_lt, q_eq, q_eqm, q_meq, q_mltT, q_ltm, q_lem, q_mleT, if_true, if_false, if_pos, if_neg, Nat.reduceAdd, Nat.reduceMul, Nat.add_zero, Nat.zero_add, Nat.one_mul, not_true_eq_false, not_false_eq_true, u_row, u_self, u_ne, cb_bi, cb_bv, cb_bl, hC'.na, hC'.ak, hC'.aa, hC'.an, hC'.ay, n_31, hI, h0, h1, and_self, and_false, false_and, ne_eq]
        exact ⟨M', rfl, hF, hI⟩
    · have h7 : W 7 k = 1 := by omega
      simp (disch := omega) only [n_0, n_1, n_2, n_3, n_4, n_5, n_6, n_7, n_8, n_9, n_10, n_12, n_13, n_16, n_30, n_60, n_61, n_86, n_99, n_100, n_200, n_201, n_1023, n_65535, n_10000, n_1000000, ↓q_m1, q_add, q_addm, q_inB, q_cl, q_le, q_lt, q_eq, q_eqm, q_meq, q_mltT, q_ltm, q_lem, q_mleT, if_true, if_false, if_pos, if_neg, Nat.reduceAdd, Nat.reduceMul, Nat.add_zero, Nat.zero_add, Nat.one_mul, not_true_eq_false, not_false_eq_true, u_row, u_self, u_ne, cb_bi, cb_bv, cb_bl, hC'.na, hC'.ak, hC'.aa, hC'.an, hC'.ay, n_31, hI, h7, and_self, and_false, false_and, ne_eq, Nat.reduceEqDiff]
      exact ⟨M', rfl, hF, hI⟩)
  have hC' := hC.fx hF (fun a q => by omega)
  refine ⟨M', ?_, hF, hI⟩
  refine Eq.trans e ?_
  rw [f76_3]
  simp (disch := omega) only [n_0, n_1, n_2, n_3, n_4, n_5, n_6, n_7, n_8, n_9, n_10, n_12, n_13, n_16, n_30, n_60, n_61, n_86, n_99, n_100, n_200, n_201, n_1023, n_65535, n_10000, n_1000000, ↓q_m1, q_add, q_addm, q_inB, q_cl, q_le, q_lt, q_eq, q_eqm, q_meq, q_mltT, q_ltm, q_lem, q_mleT, if_true, if_false, if_pos, if_neg, Nat.reduceAdd, Nat.reduceMul, Nat.add_zero, Nat.zero_add, Nat.one_mul, not_true_eq_false, not_false_eq_true, u_row, u_self, u_ne, cb_bi, cb_bv, cb_bl, hC'.na]
/-- the quarrels told, of a year -/
theorem c_told {z : Nat} (hz : 2000 ≤ z) {M : aM} {W : cW} {y0 r y law : Nat} {p : yS} {hd : Nat → Bool} (hW : wf W) (hC : rC M 18 W) (hy : 32 ≤ y0) (hr : r = y0 + 2 + (y + 1)) (hy2 : y < 12) (hh : hB (M.1 y0 2) 10 hd) (hl : M.1 y0 0 = nI law) (hl3 : law ≤ 3) (hb : bd p.1) (hS : ySt M y0 W r y p) (k12 : Nat → Nat → Nat → Int32 → aM → Option aR) :
    ∃ M', f74_62 z k12 z y0 18 27 (nI y) r (nI 0) M = f74_142 z k12 z y0 18 27 (nI y) r (nI 0) M' ∧ Fx (yF y0) M M' ∧ ySt M' y0 W r y (fo (yT W law hd y) p (W 0 5)) := by
  have hT : W 0 4 ≤ 16 := hW.2.2.2.2.1
  have hQ : W 0 5 ≤ 10 := hW.2.2.2.2.2.1
  have hC8 : W 0 3 ≤ 8 := hW.2.2.2.1
  obtain ⟨n, M', e, hF, hI⟩ := lr0 (fun n k M' => f74_62 z k12 n y0 18 27 (nI y) r (nI k) M') (W 0 5) (fun k M' => Fx (yF y0) M M' ∧ ySt M' y0 W r y (fo (yT W law hd y) p k)) z M (by omega) ⟨Fx.id0, hS⟩ (by
    intro n k M' hk hI
    obtain ⟨hF, hI⟩ := hI
    have hC' := hC.fx hF (fun a q => by unfold yF at q; omega)
    have hh' : hB (M'.1 y0 2) 10 hd := by rw [hF.2 y0 (by unfold yF; omega)]; exact hh
    have hl' : M'.1 y0 0 = nI law := by rw [hF.2 y0 (by unfold yF; omega)]; exact hl
    have hw := hW.2.2.2.2.2.2.2.2.2.1 k hk
    have hbk := fT_b (law := law) (hd := hd) (y := y) hW hb k
    simp only [fo_s]
    generalize fo (yT W law hd y) p k = p' at *
    rw [f74_62]
    by_cases h1 : W 6 k = y
    · have hgk := hh' k (by omega)
      by_cases h2 : hd k = false
      · simp only [h2, Bool.false_eq_true, if_false] at hgk
        simp only [yT, if_pos (show W 6 k = y ∧ hd k = false from ⟨h1, h2⟩)]
        obtain ⟨M1, M2, b1, b2, b3, b4, b5, b6, b7⟩ := c_bear hz (law := law) (c := W 4 k) (n0 := W 5 k) hW hC' hy hy2 hr hl3 (by omega) (by omega) hbk hI
        obtain ⟨M3, c1, c2, c3, c4, c5, c6, c7⟩ := c_note (z := z) (M := M2) (y0 := y0) (q := k) (by omega)
        simp (disch := omega) only [n_0, n_1, n_2, n_3, n_4, n_5, n_6, n_7, n_8, n_9, n_10, n_12, n_13, n_16, n_30, n_60, n_61, n_86, n_99, n_100, n_200, n_201, n_1023, n_65535, n_10000, n_1000000, ↓q_m1, q_add, q_addm, q_inB, q_cl, q_le, q_lt, q_eq, q_eqm, q_meq, q_mltT, q_ltm, q_lem, q_mleT, if_true, if_false, if_pos, if_neg, Nat.reduceAdd, Nat.reduceMul, Nat.add_zero, Nat.zero_add, Nat.one_mul, not_true_eq_false, not_false_eq_true, u_row, u_self, u_ne, cb_bi, cb_bv, cb_bl, hC'.i6, hC'.qc, hC'.qp, hC'.qy, n_31, hgk, h1, hl', b1, b2, c1, ne_eq]
        refine ⟨M3, rfl, (hF.trans b3).trans (c2.mono (fun a q => by unfold yF; omega)), ?_⟩
        obtain ⟨x1, a1, a2, a3, a4, a5⟩ := b4
        have k3 : ∀ a, a ≠ y0 + 16 + k → a ≠ y0 + 26 → a ≠ y0 + 27 → a ≠ y0 + 28 → a ≠ y0 + 29 → M3.1 a = M2.1 a := fun a q1 q2 q3 q4 q5 => c2.2 a (by omega)
        refine ⟨?_, ?_, ?_, ?_, ?_, ?_⟩
        · rw [k3 r (by omega) (by omega) (by omega) (by omega) (by omega)]; exact x1
        · intro y' hy'
          rw [k3 _ (by omega) (by omega) (by omega) (by omega) (by omega)]
          simp (disch := omega) only [yN, yu_n]
          exact a1 y' hy'
        · intro q hq
          rw [c4, c5, c6, c7, b6, b7, b5.2.2.1, b5.2.2.2, (a2 q hq).1, (a2 q hq).2.1, (a2 q hq).2.2.1, (a2 q hq).2.2.2]
          simp (disch := omega) only [yN, yu_n, yu_s, up]
          refine ⟨?_, ?_, ?_, ?_⟩ <;> (split <;> rfl)
        · intro q hq h30 t ht
          by_cases e : q = k
          · subst e
            rw [c3 t (by omega)]
            simp (disch := omega) only [yN, yu_n, yu_s]
            exact b5.1 t (by omega)
          · rw [k3 _ (by omega) (by omega) (by omega) (by omega) (by omega)]
            simp (disch := omega) only [yN, yu_n, yu_s, up, if_neg e] at h30 ⊢
            exact a3 q hq h30 t ht
        · rw [k3 _ (by omega) (by omega) (by omega) (by omega) (by omega)]
          simp (disch := omega) only [yN, yu_n]
          exact a4
        · rw [k3 _ (by omega) (by omega) (by omega) (by omega) (by omega)]
          simp (disch := omega) only [yN, yu_n]
          exact a5
      · have h3 : hd k = true := by simpa using h2
        simp only [h3, if_true] at hgk
        simp only [yT, if_neg (show ¬ (W 6 k = y ∧ hd k = false) from fun q => h2 q.2)]
        simp (disch := omega) only [n_0, n_1, n_2, n_3, n_4, n_5, n_6, n_7, n_8, n_9, n_10, n_12, n_13, n_16, n_30, n_60, n_61, n_86, n_99, n_100, n_200, n_201, n_1023, n_65535, n_10000, n_1000000, ↓q_m1, q_add, q_addm, q_inB, q_cl, q_le, q_lt, q_eq, q_eqm, q_meq, q_mltT, q_ltm, q_lem, q_mleT, if_true, if_false, if_pos, if_neg, Nat.reduceAdd, Nat.reduceMul, Nat.add_zero, Nat.zero_add, Nat.one_mul, not_true_eq_false, not_false_eq_true, u_row, u_self, u_ne, cb_bi, cb_bv, cb_bl, hC'.i6, hC'.qc, hC'.qp, hC'.qy, n_31, hgk, h1, hl', ne_eq]
        exact ⟨M', rfl, hF, hI⟩
    · simp only [yT, if_neg (show ¬ (W 6 k = y ∧ hd k = false) from fun q => h1 q.1)]
      simp (disch := omega) only [n_0, n_1, n_2, n_3, n_4, n_5, n_6, n_7, n_8, n_9, n_10, n_12, n_13, n_16, n_30, n_60, n_61, n_86, n_99, n_100, n_200, n_201, n_1023, n_65535, n_10000, n_1000000, ↓q_m1, q_add, q_addm, q_inB, q_cl, q_le, q_lt, q_eq, q_eqm, q_meq, q_mltT, q_ltm, q_lem, q_mleT, if_true, if_false, if_pos, if_neg, Nat.reduceAdd, Nat.reduceMul, Nat.add_zero, Nat.zero_add, Nat.one_mul, not_true_eq_false, not_false_eq_true, u_row, u_self, u_ne, cb_bi, cb_bv, cb_bl, hC'.i6, hC'.qc, hC'.qp, hC'.qy, h1, ne_eq]
      exact ⟨M', rfl, hF, hI⟩)
  have hC' := hC.fx hF (fun a q => by unfold yF at q; omega)
  refine ⟨M', ?_, hF, hI⟩
  refine Eq.trans e ?_
  rw [f74_62]
  simp (disch := omega) only [n_0, n_1, n_2, n_3, n_4, n_5, n_6, n_7, n_8, n_9, n_10, n_12, n_13, n_16, n_30, n_60, n_61, n_86, n_99, n_100, n_200, n_201, n_1023, n_65535, n_10000, n_1000000, ↓q_m1, q_add, q_addm, q_inB, q_cl, q_le, q_lt, q_eq, q_eqm, q_meq, q_mltT, q_ltm, q_lem, q_mleT, if_true, if_false, if_pos, if_neg, Nat.reduceAdd, Nat.reduceMul, Nat.add_zero, Nat.zero_add, Nat.one_mul, not_true_eq_false, not_false_eq_true, u_row, u_self, u_ne, cb_bi, cb_bv, cb_bl, hC'.i6]
/-- the quarrels more, of a year -/
theorem c_more {z : Nat} (hz : 2000 ≤ z) {M : aM} {W : cW} {y0 r y law : Nat} {p : yS} (hW : wf W) (hC : rC M 18 W) (hy : 32 ≤ y0) (hr : r = y0 + 2 + (y + 1)) (hy2 : y < 12) (hl : M.1 y0 0 = nI law) (hl3 : law ≤ 3) (hb : bd p.1) (hS : ySt M y0 W r y p) (k12 : Nat → Nat → Nat → Int32 → aM → Option aR) :
    ∃ M', f74_142 z k12 z y0 18 27 (nI y) r (nI 0) M = k12 y0 18 27 (nI (y + 1)) M' ∧ Fx (yF y0) M M' ∧ ySt M' y0 W r y (fo (yB W law y) p (W 0 6)) := by
  have hT : W 0 4 ≤ 16 := hW.2.2.2.2.1
  have hA : W 0 6 ≤ 30 := hW.2.2.2.2.2.2.1
  have hC8 : W 0 3 ≤ 8 := hW.2.2.2.1
  obtain ⟨n, M', e, hF, hI⟩ := lr0 (fun n k M' => f74_142 z k12 n y0 18 27 (nI y) r (nI k) M') (W 0 6) (fun k M' => Fx (yF y0) M M' ∧ ySt M' y0 W r y (fo (yB W law y) p k)) z M (by omega) ⟨Fx.id0, hS⟩ (by
    intro n k M' hk hI
    obtain ⟨hF, hI⟩ := hI
    have hC' := hC.fx hF (fun a q => by unfold yF at q; omega)
    have hl' : M'.1 y0 0 = nI law := by rw [hF.2 y0 (by unfold yF; omega)]; exact hl
    have hw := hW.2.2.2.2.2.2.2.2.2.2.1 k hk
    have hbk := fB_b (law := law) (y := y) hW hb k
    simp only [fo_s]
    generalize fo (yB W law y) p k = p' at *
    rw [f74_142]
    by_cases h0 : W 7 k = 1
    · by_cases h1 : W 10 k = y
      · simp only [yB, if_pos (show W 7 k = 1 ∧ W 10 k = y from ⟨h0, h1⟩)]
        obtain ⟨M1, M2, b1, b2, b3, b4, b5, b6, b7⟩ := c_bear hz (law := law) (c := W 8 k) (n0 := W 9 k) hW hC' hy hy2 hr hl3 (by omega) (by omega) hbk hI
        simp (disch := omega) only [n_0, n_1, n_2, n_3, n_4, n_5, n_6, n_7, n_8, n_9, n_10, n_12, n_13, n_16, n_30, n_60, n_61, n_86, n_99, n_100, n_200, n_201, n_1023, n_65535, n_10000, n_1000000, ↓q_m1, q_add, q_addm, q_inB, q_cl, q_le, q_lt, q_eq, q_eqm, q_meq, q_mltT, q_ltm, q_lem, q_mleT, if_true, if_false, if_pos, if_neg, Nat.reduceAdd, Nat.reduceMul, Nat.add_zero, Nat.zero_add, Nat.one_mul, not_true_eq_false, not_false_eq_true, u_row, u_self, u_ne, cb_bi, cb_bv, cb_bl, hC'.na, hC'.ak, hC'.aa, hC'.an, hC'.ay, h0, h1, hl', b1, b2, ne_eq]
        exact ⟨M2, rfl, hF.trans b3, b4⟩
      · simp only [yB, if_neg (show ¬ (W 7 k = 1 ∧ W 10 k = y) from fun q => h1 q.2)]
        simp (disch := omega) only [n_0, n_1, n_2, n_3, n_4, n_5, n_6, n_7, n_8, n_9, n_10, n_12, n_13, n_16, n_30, n_60, n_61, n_86, n_99, n_100, n_200, n_201, n_1023, n_65535, n_10000, n_1000000, ↓q_m1, q_add, q_addm, q_inB, q_cl, q_le, q_lt, q_eq, q_eqm, q_meq, q_mltT, q_ltm, q_lem, q_mleT, if_true, if_false, if_pos, if_neg, Nat.reduceAdd, Nat.reduceMul, Nat.add_zero, Nat.zero_add, Nat.one_mul, not_true_eq_false, not_false_eq_true, u_row, u_self, u_ne, cb_bi, cb_bv, cb_bl, hC'.na, hC'.ak, hC'.aa, hC'.an, hC'.ay, h0, h1, ne_eq]
        exact ⟨M', rfl, hF, hI⟩
    · have h7 : W 7 k = 0 := by omega
      simp only [yB, if_neg (show ¬ (W 7 k = 1 ∧ W 10 k = y) from fun q => h0 q.1)]
      simp (disch := omega) only [n_0, n_1, n_2, n_3, n_4, n_5, n_6, n_7, n_8, n_9, n_10, n_12, n_13, n_16, n_30, n_60, n_61, n_86, n_99, n_100, n_200, n_201, n_1023, n_65535, n_10000, n_1000000, ↓q_m1, q_add, q_addm, q_inB, q_cl, q_le, q_lt, q_eq, q_eqm, q_meq, q_mltT, q_ltm, q_lem, q_mleT, if_true, if_false, if_pos, if_neg, Nat.reduceAdd, Nat.reduceMul, Nat.add_zero, Nat.zero_add, Nat.one_mul, not_true_eq_false, not_false_eq_true, u_row, u_self, u_ne, cb_bi, cb_bv, cb_bl, hC'.na, hC'.ak, hC'.aa, hC'.an, hC'.ay, h7, ne_eq]
      exact ⟨M', rfl, hF, hI⟩)
  have hC' := hC.fx hF (fun a q => by unfold yF at q; omega)
  refine ⟨M', ?_, hF, hI⟩
  refine Eq.trans e ?_
  rw [f74_142]
  simp (disch := omega) only [n_0, n_1, n_2, n_3, n_4, n_5, n_6, n_7, n_8, n_9, n_10, n_12, n_13, n_16, n_30, n_60, n_61, n_86, n_99, n_100, n_200, n_201, n_1023, n_65535, n_10000, n_1000000, ↓q_m1, q_add, q_addm, q_inB, q_cl, q_le, q_lt, q_eq, q_eqm, q_meq, q_mltT, q_ltm, q_lem, q_mleT, if_true, if_false, if_pos, if_neg, Nat.reduceAdd, Nat.reduceMul, Nat.add_zero, Nat.zero_add, Nat.one_mul, not_true_eq_false, not_false_eq_true, u_row, u_self, u_ne, cb_bi, cb_bv, cb_bl, hC'.na]
