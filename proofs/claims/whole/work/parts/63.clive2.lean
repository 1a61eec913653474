/-! ===== the class: begin, live, asTold ===== -/
theorem c_begins {z : Nat} (hz : 2000 ≤ z) {M : aM} {W : cW} {y0 : Nat} {h : Nat → Nat} {gn hd : Nat → Bool} {law : Nat} (hW : wf W) (hC : rC M 18 W) (hy : 32 ≤ y0) (hg : hB (M.1 y0 1) 16 gn) (hs : ∀ t, t < W 0 4 → M.1 (y0 + 2) t = nI (h t)) :
    ∃ M', f75 z y0 18 M = some (none, M') ∧ Fx (yF y0) M M' ∧ yR M' y0 W (yV W law gn hd (fun t => if gn t = true then 0 else h t) 0).2 0 := by
  have hT : W 0 4 ≤ 16 := hW.2.2.2.2.1
  have hQ : W 0 5 ≤ 10 := hW.2.2.2.2.2.1
  unfold f75
  simp only [n_0]
  obtain ⟨n, M0, e, hF, hI⟩ := lr0 (fun n k M' => f75_2 z n y0 18 (nI k) M') (W 0 4) (fun k M' => Fx (fun a => a = y0 + 2) M M' ∧ (∀ t, t < W 0 4 → M'.1 (y0 + 2) t = nI (if t < k ∧ gn t = true then 0 else h t))) z M (by omega) ⟨Fx.id0, fun t ht => by rw [hs t ht, if_neg (by omega)]⟩ (by
    intro n k M' hk hI
    obtain ⟨hF, hI⟩ := hI
    have hC' := hC.fx hF (fun a q => by omega)
    have hg' : hB (M'.1 y0 1) 16 gn := by rw [hF.2 y0 (by omega)]; exact hg
    have hgk := hg' k (by omega)
    have e0 : y0 + 1 + (1 + 0) = y0 + 2 := by omega
    rw [f75_2]
    by_cases h2 : gn k = true
    · simp only [h2, if_true] at hgk
      simp (disch := omega) only [n_0, n_1, n_2, n_3, n_4, n_5, n_6, n_7, n_8, n_9, n_10, n_12, n_13, n_16, n_30, n_60, n_61, n_86, n_99, n_100, n_200, n_201, n_1023, n_65535, n_10000, n_1000000, ↓q_m1, q_add, q_addm, q_inB, q_cl, q_le, q_lt, q_eq, q_eqm, q_meq, q_mltT, q_ltm, q_lem, q_mleT, if_true, if_false, if_pos, if_neg, Nat.reduceAdd, Nat.reduceMul, Nat.add_zero, Nat.zero_add, Nat.one_mul, not_true_eq_false, not_false_eq_true, u_row, u_self, u_ne, cb_bi, cb_bv, cb_bl, hC'.i5, n_31, hgk, e0]
      refine ⟨_, rfl, Fx.w hF rfl, ?_⟩
      intro t ht
      show am_u M'.1 (y0 + 2) k (nI 0) (y0 + 2) t = _
      rw [u_at]
      by_cases q : t = k
      · rw [if_pos q, q, if_pos ⟨by omega, h2⟩]
      · rw [if_neg q, hI t ht]
        congr 1
        by_cases q2 : t < k
        · simp only [q2, show t < k + 1 by omega]
        · simp only [q2, show ¬ t < k + 1 by omega]
    · simp only [h2, Bool.false_eq_true, if_false] at hgk
      simp (disch := omega) only [n_0, n_1, n_2, n_3, n_4, n_5, n_6, n_7, n_8, n_9, n_10, n_12, n_13, n_16, n_30, n_60, n_61, n_86, n_99, n_100, n_200, n_201, n_1023, n_65535, n_10000, n_1000000, ↓q_m1, q_add, q_addm, q_inB, q_cl, q_le, q_lt, q_eq, q_eqm, q_meq, q_mltT, q_ltm, q_lem, q_mleT, if_true, if_false, if_pos, if_neg, Nat.reduceAdd, Nat.reduceMul, Nat.add_zero, Nat.zero_add, Nat.one_mul, not_true_eq_false, not_false_eq_true, u_row, u_self, u_ne, cb_bi, cb_bv, cb_bl, hC'.i5, n_31, hgk]
      refine ⟨M', rfl, hF, ?_⟩
      intro t ht
      rw [hI t ht]
      congr 1
      by_cases q : t = k
      · rw [q, if_neg (fun q => h2 q.2), if_neg (fun q => h2 q.2)]
      · by_cases q2 : t < k
        · simp only [q2, show t < k + 1 by omega]
        · simp only [q2, show ¬ t < k + 1 by omega])
  have hC0 := hC.fx hF (fun a q => by omega)
  rw [e, f75_2]
  obtain ⟨M1, a1, a2, a3⟩ := c_f22 hz (y0 + 26) (nI 0) M0
  obtain ⟨M2, b1, b2, b3⟩ := c_f22 hz (y0 + 27) (nI 0) M1
  obtain ⟨M3, c1, c2, c3⟩ := c_f22 hz (y0 + 28) (nI 0) M2
  obtain ⟨M4, d1, d2, d3⟩ := c_f22 hz (y0 + 29) (nI 0) M3
  obtain ⟨M5, x1, x2, x3⟩ := c_f21 hz (y0 + 30) (nI 0) M4
  obtain ⟨M6, z1, z2, z3⟩ := c_f21 hz (y0 + 31) (nI 0) M5
  simp (disch := omega) only [n_0, n_1, n_2, n_3, n_4, n_5, n_6, n_7, n_8, n_9, n_10, n_12, n_13, n_16, n_30, n_60, n_61, n_86, n_99, n_100, n_200, n_201, n_1023, n_65535, n_10000, n_1000000, ↓q_m1, q_add, q_addm, q_inB, q_cl, q_le, q_lt, q_eq, q_eqm, q_meq, q_mltT, q_ltm, q_lem, q_mleT, if_true, if_false, if_pos, if_neg, Nat.reduceAdd, Nat.reduceMul, Nat.add_zero, Nat.zero_add, Nat.one_mul, not_true_eq_false, not_false_eq_true, u_row, u_self, u_ne, cb_bi, cb_bv, cb_bl, hC0.i5, a1, b1, c1, d1, x1, z1]
  refine ⟨M6, rfl, ?_, ?_, ?_, ?_, ?_, ?_⟩
  · refine (((((hF.mono ?_).trans (a2.mono ?_)).trans (b2.mono ?_)).trans (c2.mono ?_)).trans (d2.mono ?_)).trans ((x2.mono ?_).trans (z2.mono ?_)) <;> (intro a q; unfold yF; omega)
  · intro y hy0 t ht
    have : y = 0 := by omega
    subst this
    rw [z2.2 _ (by omega), x2.2 _ (by omega), d2.2 _ (by omega), c2.2 _ (by omega), b2.2 _ (by omega), a2.2 _ (by omega)]
    show M0.1 (y0 + 2) t = _
    rw [hI t ht]
    simp only [ht, true_and]
    rfl
  · intro q hq
    refine ⟨?_, ?_, ?_, ?_⟩
    · rw [z2.2 _ (by omega), x2.2 _ (by omega), d2.2 _ (by omega), c2.2 _ (by omega), b2.2 _ (by omega), a3 q (by omega)]; rfl
    · rw [z2.2 _ (by omega), x2.2 _ (by omega), d2.2 _ (by omega), c2.2 _ (by omega), b3 q (by omega)]; rfl
    · rw [z2.2 _ (by omega), x2.2 _ (by omega), d2.2 _ (by omega), c3 q (by omega)]; rfl
    · rw [z2.2 _ (by omega), x2.2 _ (by omega), d3 q (by omega)]; rfl
  · intro q hq h30
    exact absurd rfl h30
  · intro t ht
    rw [z2.2 _ (by omega), x3 t (by omega)]; rfl
  · intro t ht
    rw [z3 t (by omega)]; rfl
theorem yV_row (W : cW) (law : Nat) (gn hd : Nat → Bool) (s : Nat → Nat) : ∀ y, (yV W law gn hd s y).2 y = (yV W law gn hd s y).1
  | 0 => rfl
  | y + 1 => yu_s _ _ _
/-- live -/
theorem c_live {z : Nat} (hz : 2000 ≤ z) {M : aM} {W : cW} {y0 law : Nat} {h : Nat → Nat} {gn hd : Nat → Bool} (hW : wf W) (hC : rC M 18 W) (hy : 32 ≤ y0) (hl : M.1 y0 0 = nI law) (hl3 : law ≤ 3) (hg : hB (M.1 y0 1) 16 gn) (hh : hB (M.1 y0 2) 10 hd) (hb : bd h) (hs : ∀ t, t < W 0 4 → M.1 (y0 + 2) t = nI (h t)) :
    ∃ M', f74 z y0 18 M = some (none, M') ∧ Fx (yF y0) M M' ∧ yR M' y0 W (lv W law gn hd h) (W 0 0) := by
  have hY : W 0 0 ≤ 12 := hW.1
  obtain ⟨M0, e0, hF0, hR0⟩ := c_begins hz (law := law) (hd := hd) hW hC hy hg hs
  have hb0 : bd (fun t => if gn t = true then 0 else h t) := fun t => by
    show (if gn t = true then 0 else h t) ≤ 1000
    split
    · omega
    · exact hb t
  unfold f74 lv
  simp (disch := omega) only [n_0, n_1, n_2, n_3, n_4, n_5, n_6, n_7, n_8, n_9, n_10, n_12, n_13, n_16, n_30, n_60, n_61, n_86, n_99, n_100, n_200, n_201, n_1023, n_65535, n_10000, n_1000000, ↓q_m1, q_add, q_addm, q_inB, q_cl, q_le, q_lt, q_eq, q_eqm, q_meq, q_mltT, q_ltm, q_lem, q_mleT, if_true, if_false, if_pos, if_neg, Nat.reduceAdd, Nat.reduceMul, Nat.add_zero, Nat.zero_add, Nat.one_mul, not_true_eq_false, not_false_eq_true, u_row, u_self, u_ne, cb_bi, cb_bv, cb_bl, e0]
  generalize (fun t => if gn t = true then 0 else h t) = s0 at *
  obtain ⟨n, M', e, hF, hI⟩ := lr0 (fun n k M' => f74_12 z n y0 18 27 (nI k) M') (W 0 0) (fun k M' => Fx (yF y0) M0 M' ∧ yR M' y0 W (yV W law gn hd s0 k).2 k) z M0 (by omega) ⟨Fx.id0, hR0⟩ (by
    intro n k M' hk hI
    obtain ⟨hF, hI⟩ := hI
    have hF1 := hF0.trans hF
    have hC' := hC.fx hF1 (fun a q => by unfold yF at q; omega)
    have hy0 : M'.1 y0 = M.1 y0 := hF1.2 y0 (by unfold yF; omega)
    have er : y0 + 1 + (1 + (k + 1)) = y0 + 2 + (k + 1) := by omega
    have er2 : y0 + 1 + (1 + k) = y0 + 2 + k := by omega
    have hbk := yV_b (law := law) (gn := gn) (hd := hd) hW hb0 k
    generalize hM2 : ((am_ua M'.1 (y0 + 2 + (k + 1)) (va_cpy (M'.1 (y0 + 2 + k)) (M'.1 (y0 + 2 + (k + 1))) 0 0 16), M'.2) : aM) = M2
    have hF2 : Fx (yF y0) M M2 := by rw [← hM2]; exact Fx.wa hF1 (by unfold yF; omega)
    have k2 : ∀ a, a ≠ y0 + 2 + (k + 1) → M2.1 a = M'.1 a := fun a q => by rw [← hM2]; show am_ua _ _ _ a = _; rw [ua_row q]
    have hr2 : ∀ t, t < W 0 4 → M2.1 (y0 + 2 + (k + 1)) t = nI ((yV W law gn hd s0 k).1 t) := by
      intro t ht
      have hT : W 0 4 ≤ 16 := hW.2.2.2.2.1
      rw [← hM2]
      show am_ua _ _ _ (y0 + 2 + (k + 1)) t = _
      rw [ua_self, sb_cpy0 (by omega), hI.1 k (Nat.le_refl _) t ht, yV_row]
    have hC2 := hC.fx hF2 (fun a q => by unfold yF at q; omega)
    have hy2 : M2.1 y0 = M.1 y0 := by rw [k2 y0 (by omega)]; exact hy0
    obtain ⟨M3, l1, l2, l3⟩ := c_letIn hz (r := y0 + 2 + (k + 1)) (y := k) (gn := gn) hW hC2 hy (by omega) (by omega) (by rw [hy2]; exact hg) hbk hr2
    have hF3 : Fx (yF y0) M M3 := hF2.trans (l2.mono (fun a q => by unfold yF; omega))
    have hC3 := hC.fx hF3 (fun a q => by unfold yF at q; omega)
    have hy3 : M3.1 y0 = M.1 y0 := hF3.2 y0 (by unfold yF; omega)
    have hR3 : yR M3 y0 W (yV W law gn hd s0 k).2 k := by
      have k3 : ∀ a, a ≠ y0 + 2 + (k + 1) → M3.1 a = M'.1 a := fun a q => by rw [l2.2 a q, k2 a q]
      obtain ⟨a1, a2, a3, a4, a5⟩ := hI
      have hQ : W 0 5 ≤ 10 := hW.2.2.2.2.2.1
      refine ⟨?_, ?_, ?_, ?_, ?_⟩
      · intro y hyk
        rw [k3 _ (by omega)]; exact a1 y hyk
      · intro q hq
        rw [k3 _ (by omega), k3 _ (by omega), k3 _ (by omega), k3 _ (by omega)]; exact a2 q hq
      · intro q hq
        rw [k3 _ (by omega)]; exact a3 q hq
      · rw [k3 _ (by omega)]; exact a4
      · rw [k3 _ (by omega)]; exact a5
    obtain ⟨M4, t1, t2, t3⟩ := c_told hz (law := law) (hd := hd) (r := y0 + 2 + (k + 1)) (y := k) (p := (fo (yL W gn k) (yV W law gn hd s0 k).1 (W 0 6), (yV W law gn hd s0 k).2)) hW hC3 hy rfl (by omega) (by rw [hy3]; exact hh) (by rw [hy3]; exact hl) hl3 (fL_b hbk _) ⟨l3, hR3⟩ (f74_12 z n)
    have hF4 := hF3.trans t2
    have hC4 := hC.fx hF4 (fun a q => by unfold yF at q; omega)
    have hy4 : M4.1 y0 = M.1 y0 := hF4.2 y0 (by unfold yF; omega)
    obtain ⟨M5, m1, m2, m3⟩ := c_more hz (law := law) (r := y0 + 2 + (k + 1)) (y := k) hW hC4 hy rfl (by omega) (by rw [hy4]; exact hl) hl3 (fT_b hW (p := (fo (yL W gn k) (yV W law gn hd s0 k).1 (W 0 6), (yV W law gn hd s0 k).2)) (fL_b hbk _) _) t3 (f74_12 z n)
    rw [f74_12]
    simp (disch := omega) only [n_0, n_1, n_2, n_3, n_4, n_5, n_6, n_7, n_8, n_9, n_10, n_12, n_13, n_16, n_30, n_60, n_61, n_86, n_99, n_100, n_200, n_201, n_1023, n_65535, n_10000, n_1000000, ↓q_m1, q_add, q_addm, q_inB, q_cl, q_le, q_lt, q_eq, q_eqm, q_meq, q_mltT, q_ltm, q_lem, q_mleT, if_true, if_false, if_pos, if_neg, Nat.reduceAdd, Nat.reduceMul, Nat.add_zero, Nat.zero_add, Nat.one_mul, not_true_eq_false, not_false_eq_true, u_row, u_self, u_ne, cb_bi, cb_bv, cb_bl, hC'.i1, cp16, er, er2, hM2, l1]
    refine ⟨M5, ?_, ?_, ?_⟩
    · rw [t1, m1]
    · refine hF.trans ?_
      refine Fx.trans (M' := M2) ?_ ((l2.mono (fun a q => by unfold yF; omega)).trans (t2.trans m2))
      rw [← hM2]
      exact Fx.wa Fx.id0 (by unfold yF; omega)
    · obtain ⟨x1, a1, a2, a3, a4, a5⟩ := m3
      have e9 : fo (yB W law k) (fo (yT W law hd k) (fo (yL W gn k) (yV W law gn hd s0 k).1 (W 0 6), (yV W law gn hd s0 k).2) (W 0 5)) (W 0 6) = yY W law gn hd k (yV W law gn hd s0 k) := rfl
      rw [e9] at x1 a1 a2 a3 a4 a5
      show yR M5 y0 W (yu (yY W law gn hd k (yV W law gn hd s0 k)).2 (k + 1) (yY W law gn hd k (yV W law gn hd s0 k)).1) (k + 1)
      generalize yY W law gn hd k (yV W law gn hd s0 k) = p at *
      have hQ : W 0 5 ≤ 10 := hW.2.2.2.2.2.1
      refine ⟨?_, ?_, ?_, ?_, ?_⟩
      · intro y hyk
        by_cases q : y = k + 1
        · rw [q, yu_s]; exact x1
        · rw [yu_n _ _ q]; exact a1 y (by omega)
      · intro q hq
        rw [yu_n _ _ (by omega), yu_n _ _ (by omega), yu_n _ _ (by omega), yu_n _ _ (by omega)]; exact a2 q hq
      · intro q hq
        rw [yu_n _ _ (by omega), yu_n _ _ (by omega)]; exact a3 q hq
      · rw [yu_n _ _ (by omega)]; exact a4
      · rw [yu_n _ _ (by omega)]; exact a5)
  have hC' := hC.fx (hF0.trans hF) (fun a q => by unfold yF at q; omega)
  refine ⟨M', ?_, hF0.trans hF, hI⟩
  refine Eq.trans e ?_
  rw [f74_12]
  simp (disch := omega) only [n_0, n_1, n_2, n_3, n_4, n_5, n_6, n_7, n_8, n_9, n_10, n_12, n_13, n_16, n_30, n_60, n_61, n_86, n_99, n_100, n_200, n_201, n_1023, n_65535, n_10000, n_1000000, ↓q_m1, q_add, q_addm, q_inB, q_cl, q_le, q_lt, q_eq, q_eqm, q_meq, q_mltT, q_ltm, q_lem, q_mleT, if_true, if_false, if_pos, if_neg, Nat.reduceAdd, Nat.reduceMul, Nat.add_zero, Nat.zero_add, Nat.one_mul, not_true_eq_false, not_false_eq_true, u_row, u_self, u_ne, cb_bi, cb_bv, cb_bl, hC'.i1]
/-- the strengths told -/
def hT0 (W : cW) : Nat → Nat := fun t => if t < W 0 4 then W 3 t else 0
theorem hT0_b {W : cW} (hW : wf W) : bd (hT0 W) := fun t => by
  unfold hT0
  split
  · rename_i q
    have := hW.2.2.2.2.2.2.2.2.1 t q
    omega
  · omega
theorem c_asTold {z : Nat} {M : aM} {W : cW} {y0 : Nat} (hW : wf W) (hC : rC M 18 W) (hy : 32 ≤ y0) :
    ∃ M', f73 z y0 18 M = some (none, M') ∧ Fx (fun a => a = y0 ∨ a = y0 + 2) M M' ∧ M'.1 y0 0 = nI (W 0 1) ∧ M'.1 y0 1 = nI 0 ∧ M'.1 y0 2 = nI 0 ∧ (∀ t, t < W 0 4 → M'.1 (y0 + 2) t = nI (hT0 W t)) := by
  have hT : W 0 4 ≤ 16 := hW.2.2.2.2.1
  have e0 : y0 + 1 + (1 + 0) = y0 + 2 := by omega
  unfold f73 f73_35
  simp (disch := omega) only [n_0, n_1, n_2, n_3, n_4, n_5, n_6, n_7, n_8, n_9, n_10, n_12, n_13, n_16, n_30, n_60, n_61, n_86, n_99, n_100, n_200, n_201, n_1023, n_65535, n_10000, n_1000000, ↓q_m1, q_add, q_addm, q_inB, q_cl, q_le, q_lt, q_eq, q_eqm, q_meq, q_mltT, q_ltm, q_lem, q_mleT, if_true, if_false, if_pos, if_neg, Nat.reduceAdd, Nat.reduceMul, Nat.add_zero, Nat.zero_add, Nat.one_mul, not_true_eq_false, not_false_eq_true, u_row, u_self, u_ne, cb_bi, cb_bv, cb_bl, cp16, e0, hC.i2]
  refine ⟨_, rfl, Fx.wa (Fx.w (Fx.w (Fx.w Fx.id0 (.inl rfl)) (.inl rfl)) (.inl rfl)) (.inr rfl), ?_, ?_, ?_, ?_⟩
  · simp (disch := omega) only [ua_row, u_ne, u_self]
  · simp (disch := omega) only [ua_row, u_ne, u_self]
  · simp (disch := omega) only [ua_row, u_ne, u_self]
  · intro t ht
    simp (disch := omega) only [ua_self, sb_cpy0, u_row, hC.ho]
    unfold hT0
    rw [if_pos ht]
theorem hB_0 (n : Nat) (h : n ≤ 32) : hB (nI 0) n (fun _ => false) := fun k hk => by
  rw [q_bt (by omega) (by omega)]
  have : bt 0 k = 0 := by unfold bt; rw [Nat.zero_div]
  rw [this]
  rfl
def nB : Nat → Bool := fun _ => false
