/-! ===== the class: a whole quarrel ===== -/
def uS (u : Nat) (a : Nat) : Prop := a = u ∨ a = u + 1 ∨ a = u + 2
def dS (u r : Nat) (a : Nat) : Prop := a = u ∨ a = u + 1 ∨ a = u + 2 ∨ a = r
theorem c_begin {z : Nat} (hz : 2000 ≤ z) {M : aM} {u c n0 : Nat} (hc : c < 8) :
    ∃ M', f57 z u (nI c) (nI n0) M = some (none, M') ∧ Fx (uS u) M M' ∧ (∀ j, j < 3 → M'.1 u j = M.1 u j) ∧ tX M' u (cX0 c n0) := by
  obtain ⟨M1, e1, hF1, h1⟩ := c_f21 hz (u + 1) (nI 0) M
  obtain ⟨M2, e2, hF2, h2⟩ := c_f27 hz (u + 2) (nI 0) M1
  unfold f57
  simp (disch := omega) only [n_0, n_1, n_2, n_3, n_4, n_5, n_6, n_7, n_8, n_9, n_10, n_12, n_13, n_16, n_30, n_60, n_61, n_86, n_99, n_100, n_200, n_201, n_1023, n_65535, n_10000, n_1000000, ↓q_m1, q_add, q_addm, q_inB, q_cl, q_le, q_lt, q_eq, q_eqm, q_meq, q_mltT, q_ltm, q_lem, q_mleT, if_true, if_false, if_pos, if_neg, Nat.reduceAdd, Nat.reduceMul, Nat.add_zero, Nat.zero_add, not_true_eq_false, not_false_eq_true, u_row, u_self, u_ne, cb_bi, cb_bv, cb_bl, e1, e2]
  refine ⟨_, rfl, Fx.w (Fx.w (Fx.w ((hF1.mono (fun a q => .inr (.inl q))).trans (hF2.mono (fun a q => .inr (.inr q)))) (.inr (.inr rfl))) (.inl rfl)) (.inl rfl), ?_, ?_, ?_, ?_, ?_⟩
  · intro j hj
    simp (disch := omega) only [u_ne, u_row]
    rw [hF2.2 u (by omega), hF1.2 u (by omega)]
  · intro t ht
    simp (disch := omega) only [u_row]
    rw [hF2.2 (u + 1) (by omega)]
    exact h1 t ht
  · simp (disch := omega) only [u_row]
    exact row_upg (g := fun _ => 0) h2
  · simp (disch := omega) only [u_ne, u_self]
    rfl
  · simp (disch := omega) only [u_ne, u_self]
    rfl
/-- from the claim that is pulled down to the least -/
theorem c_down {z : Nat} (hz : 2000 ≤ z) {W : cW} {s : Nat → Nat} {u r law n0 : Nat} (hW : wf W) (hu : 32 ≤ u) (hr : 32 ≤ r) (hn0 : r ≠ u) (hn1 : r ≠ u + 1) (hn2 : r ≠ u + 2) (hb : ∀ t, s t ≤ 1000) (hl3 : law ≤ 3) (h200 : n0 ≤ 200) (k16 : Nat → Nat → Int32 → Nat → Int32 → Int32 → Int32 → Int32 → aM → Option aR) (x4 x5 x7 : Int32) :
    ∀ (c : Nat) (n : Nat) (M : aM) (X : cX), c ≤ 8 → c < n → rC M 18 W → (∀ t, t < W 0 4 → M.1 r t = nI (s t)) → tX M u X → ix W s n0 c X →
    ∃ n' M', f56_40 z k16 n u 18 (nI law) r x4 x5 x7 (nI c + mI) M = f56_40 z k16 (n' + 1) u 18 (nI law) r x4 x5 x7 mI M' ∧ Fx (uS u) M M' ∧ (∀ j, j < 3 → M'.1 u j = M.1 u j) ∧ tX M' u (pd W law s c X)
  | 0, n, M, X, hc, hn, hC, hs, hX, hi => by
    obtain ⟨n, rfl⟩ : ∃ n', n = n' + 1 := ⟨n - 1, by omega⟩
    exact ⟨n, M, by rfl, Fx.id0, fun _ _ => rfl, hX⟩
  | c + 1, n, M, X, hc, hn, hC, hs, hX, hi => by
    obtain ⟨n, rfl⟩ : ∃ n', n = n' + 1 := ⟨n - 1, by omega⟩
    have hLn : X.2.1 c ≤ 200 := by
      have h1 : sm X.2.1 c + X.2.1 c + X.2.2.1 + X.2.2.2 = n0 := hi.1
      omega
    have hld := hX.2.1 c (by omega)
    rw [q_addm (by omega), Nat.add_sub_cancel, f56_40]
    by_cases hL0 : X.2.1 c = 0
    · simp (disch := omega) only [n_0, n_1, n_2, n_3, n_4, n_5, n_6, n_7, n_8, n_9, n_10, n_12, n_13, n_16, n_30, n_60, n_61, n_86, n_99, n_100, n_200, n_201, n_1023, n_65535, n_10000, n_1000000, ↓q_m1, q_add, q_addm, q_inB, q_cl, q_le, q_lt, q_eq, q_eqm, q_meq, q_mltT, q_ltm, q_lem, q_mleT, if_true, if_false, if_pos, if_neg, Nat.reduceAdd, Nat.reduceMul, Nat.add_zero, Nat.zero_add, not_true_eq_false, not_false_eq_true, u_row, u_self, u_ne, cb_bi, cb_bv, cb_bl, hld, -q_addm]
      obtain ⟨n', M', e1, e2, e3, e4⟩ := c_down hz hW hu hr hn0 hn1 hn2 hb hl3 h200 k16 x4 x5 x7 c n M X (by omega) (by omega) hC hs hX (by
        have := dv_ix (law := law) hW hi
        have e : dv W law s c X = X := if_pos hL0
        rw [e] at this
        exact this)
      refine ⟨n', M', e1, e2, e3, ?_⟩
      show tX M' u (pd W law s c (dv W law s c X))
      have e : dv W law s c X = X := if_pos hL0
      rw [e]
      exact e4
    · obtain ⟨M1, d1, d2, d3, d4⟩ := c_divide hz hW hC hu hr hn0 hn1 hn2 (by omega) hs hb hl3 hX hi h200 hL0
      simp (disch := omega) only [n_0, n_1, n_2, n_3, n_4, n_5, n_6, n_7, n_8, n_9, n_10, n_12, n_13, n_16, n_30, n_60, n_61, n_86, n_99, n_100, n_200, n_201, n_1023, n_65535, n_10000, n_1000000, ↓q_m1, q_add, q_addm, q_inB, q_cl, q_le, q_lt, q_eq, q_eqm, q_meq, q_mltT, q_ltm, q_lem, q_mleT, if_true, if_false, if_pos, if_neg, Nat.reduceAdd, Nat.reduceMul, Nat.add_zero, Nat.zero_add, not_true_eq_false, not_false_eq_true, u_row, u_self, u_ne, cb_bi, cb_bv, cb_bl, hld, d1, -q_addm]
      obtain ⟨n', M', e1, e2, e3, e4⟩ := c_down hz hW hu hr hn0 hn1 hn2 hb hl3 h200 k16 x4 x5 x7 c n M1 (dv W law s c X) (by omega) (by omega) (hC.fx d2 (fun a q => by omega)) (by rw [d2.2 r (by omega)]; exact hs) d4 (dv_ix hW hi)
      exact ⟨n', M', e1, Fx.trans d2 e2, fun j hj => by rw [e3 j hj, d3 j hj], e4⟩
theorem tr_le (N : Nat) (s g : Nat → Nat) (t : Nat) : tr N s g t ≤ s t := by
  unfold tr
  split <;> omega
/-- pulls until nothing tears -/
theorem c_pulls {z : Nat} (hz : 2000 ≤ z) {W : cW} {u r law c n0 : Nat} (hW : wf W) (hu : 32 ≤ u) (hr : 32 ≤ r) (hn0 : r ≠ u) (hn1 : r ≠ u + 1) (hn2 : r ≠ u + 2) (hl3 : law ≤ 3) (h200 : n0 ≤ 200) (hc : c < 8) :
    ∀ (f : Nat) (s : Nat → Nat) (k rp n : Nat) (M : aM), f + k = 17 → f < n → nW s (List.range (W 0 4)) < f → rC M 18 W → (∀ t, t < W 0 4 → M.1 r t = nI (s t)) → (∀ t, s t ≤ 1000) → M.1 u 1 = nI k → M.1 u 2 = nI rp →
    ∃ M', f56_16 z n u 18 (nI law) r (nI c) (nI n0) (nI 1) (nI k) M = f56_97 z z u 18 r (nI 0) M' ∧ Fx (dS u r) M M' ∧ (∀ t, t < W 0 4 → M'.1 r t = nI ((qr W law c n0 f s k rp).1 t)) ∧ tX M' u (qr W law c n0 f s k rp).2.1 ∧ M'.1 u 1 = nI (qr W law c n0 f s k rp).2.2.1 ∧ M'.1 u 2 = nI (qr W law c n0 f s k rp).2.2.2
  | 0, s, k, rp, n, M, hk, hn, hf, hC, hs, hb, h1, h2 => by omega
  | f + 1, s, k, rp, n, M, hk, hn, hf, hC, hs, hb, h1, h2 => by
    obtain ⟨n, rfl⟩ : ∃ n', n = n' + 1 := ⟨n - 1, by omega⟩
    obtain ⟨M1, b1, b2, b3, b4⟩ := c_begin (z := z) (M := M) (u := u) (n0 := n0) hz hc
    have hix := pl_ix hW law s c n0
    obtain ⟨n', M2, d1, d2, d3, d4⟩ := c_down hz (s := s) (law := law) hW hu hr hn0 hn1 hn2 hb hl3 h200 (f56_16 z n) (nI c) (nI n0) (nI k) (c + 1) z M1 (cX0 c n0) (by omega) (by omega) (hC.fx b2 (fun a q => by unfold uS at q; omega)) (by rw [b2.2 r (by unfold uS; omega)]; exact hs) b4 (cX0_ix W s (Nat.lt_succ_self c))
    rw [q_addm (by omega), Nat.add_sub_cancel] at d1
    have hF2 : Fx (dS u r) M M2 := (b2.trans d2).mono (fun a q => by unfold uS at q; unfold dS; omega)
    have hC2 := hC.fx hF2 (fun a q => by unfold dS at q; omega)
    have hs2 : ∀ t, t < W 0 4 → M2.1 r t = nI (s t) := by rw [d2.2 r (by unfold uS; omega), b2.2 r (by unfold uS; omega)]; exact hs
    have h1' : M2.1 u 1 = nI k := by rw [d3 1 (by omega), b3 1 (by omega)]; exact h1
    have h2' : M2.1 u 2 = nI rp := by rw [d3 2 (by omega), b3 2 (by omega)]; exact h2
    obtain ⟨M3, t1, t2, t3, t4, t5⟩ := c_tear hz (M := (am_u M2.1 u 1 (nI (k + 1)), M2.2)) (W := W) (s := s) (g := (pl W law s c n0).1) (u := u) (r := r) (rp := rp) hW (hC2.of (fun a _ _ => by show am_u M2.1 u 1 (nI (k + 1)) a = M2.1 a; rw [u_row (by omega)])) hu hr hn0 hn1 (by simp (disch := omega) only [u_row]; exact hs2) hb (by simp (disch := omega) only [u_row]; exact d4.1) (fun t => by have := hix.2.1 t; omega) (by simp (disch := omega) only [u_ne]; exact h2')
    rw [f56_16]
    simp (disch := omega) only [n_0, n_1, n_2, n_3, n_4, n_5, n_6, n_7, n_8, n_9, n_10, n_12, n_13, n_16, n_30, n_60, n_61, n_86, n_99, n_100, n_200, n_201, n_1023, n_65535, n_10000, n_1000000, ↓q_m1, q_add, q_addm, q_inB, q_cl, q_le, q_lt, q_eq, q_eqm, q_meq, q_mltT, q_ltm, q_lem, q_mleT, if_true, if_false, if_pos, if_neg, Nat.reduceAdd, Nat.reduceMul, Nat.add_zero, Nat.zero_add, not_true_eq_false, not_false_eq_true, u_row, u_self, u_ne, cb_bi, cb_bv, cb_bl, b1, -q_addm]
    rw [d1, f56_40]
    simp (disch := omega) only [n_0, n_1, n_2, n_3, n_4, n_5, n_6, n_7, n_8, n_9, n_10, n_12, n_13, n_16, n_30, n_60, n_61, n_86, n_99, n_100, n_200, n_201, n_1023, n_65535, n_10000, n_1000000, ↓q_m1, q_add, q_addm, q_inB, q_cl, q_le, q_lt, q_eq, q_eqm, q_meq, q_mltT, q_ltm, q_lem, q_mleT, if_true, if_false, if_pos, if_neg, Nat.reduceAdd, Nat.reduceMul, Nat.add_zero, Nat.zero_add, not_true_eq_false, not_false_eq_true, u_row, u_self, u_ne, cb_bi, cb_bv, cb_bl, h1', t1]
    have hF3 : Fx (dS u r) M M3 := (Fx.w hF2 (.inl rfl)).trans (t2.mono (fun a q => by unfold dS; omega))
    have hC3 := hC.fx hF3 (fun a q => by unfold dS at q; omega)
    have hX3 : tX M3 u (pl W law s c n0) := by
      refine ⟨?_, ?_, ?_, ?_⟩
      · rw [t2.2 (u + 1) (by omega)]
        simp (disch := omega) only [u_row]
        exact d4.1
      · rw [t2.2 (u + 2) (by omega)]
        simp (disch := omega) only [u_row]
        exact d4.2.1
      · rw [t3 3 (by omega)]
        simp (disch := omega) only [u_ne]
        exact d4.2.2.1
      · rw [t3 4 (by omega)]
        simp (disch := omega) only [u_ne]
        exact d4.2.2.2
    have h13 : M3.1 u 1 = nI (k + 1) := by
      rw [t3 1 (by omega)]
      simp only [u_self]
    unfold qr
    by_cases hb0 : bN (tb s (pl W law s c n0).1) (W 0 4) = 0
    · simp only [if_pos hb0]
      obtain ⟨n, rfl⟩ : ∃ n', n = n' + 1 := ⟨n - 1, by omega⟩
      refine ⟨M3, ?_, hF3, ?_, hX3, h13, ?_⟩
      · rw [f56_16]
        simp (disch := omega) only [n_0, n_1, n_2, n_3, n_4, n_5, n_6, n_7, n_8, n_9, n_10, n_12, n_13, n_16, n_30, n_60, n_61, n_86, n_99, n_100, n_200, n_201, n_1023, n_65535, n_10000, n_1000000, ↓q_m1, q_add, q_addm, q_inB, q_cl, q_le, q_lt, q_eq, q_eqm, q_meq, q_mltT, q_ltm, q_lem, q_mleT, if_true, if_false, if_pos, if_neg, Nat.reduceAdd, Nat.reduceMul, Nat.add_zero, Nat.zero_add, not_true_eq_false, not_false_eq_true, u_row, u_self, u_ne, cb_bi, cb_bv, cb_bl]
      · intro t ht
        rw [t5 t ht]
        unfold tr
        rw [bN_zero] at hb0
        have := hb0 t ht
        rw [if_neg]
        intro q
        apply this
        simp only [tb, q.2, decide_true]
      · rw [t4, hb0, Nat.or_zero]
    · simp only [if_neg hb0]
      obtain ⟨M', e1, e2, e3, e4, e5, e6⟩ := c_pulls hz hW hu hr hn0 hn1 hn2 hl3 h200 hc f (tr (W 0 4) s (pl W law s c n0).1) (k + 1) (rp ||| bN (tb s (pl W law s c n0).1) (W 0 4)) n M3 (by omega) (by omega) (by have := tr_lt hW hb0; omega) hC3 t5 (fun t => Nat.le_trans (tr_le _ _ _ t) (hb t)) h13 t4
      exact ⟨M', e1, hF3.trans e2, e3, e4, e5, e6⟩
theorem nW_range {W : cW} (hW : wf W) (s : Nat → Nat) : nW s (List.range (W 0 4)) < 17 := by
  have hT : W 0 4 ≤ 16 := hW.2.2.2.2.1
  have := nW_le s (List.range (W 0 4))
  rw [List.length_range] at this
  omega
/-- drag -/
theorem c_drag {z : Nat} (hz : 2000 ≤ z) {M : aM} {W : cW} {s : Nat → Nat} {u r law c n0 : Nat} (hW : wf W) (hC : rC M 18 W) (hu : 32 ≤ u) (hr : 32 ≤ r) (hn0 : r ≠ u) (hn1 : r ≠ u + 1) (hn2 : r ≠ u + 2) (hl3 : law ≤ 3) (h200 : n0 ≤ 200) (hc : c < 8) (hs : ∀ t, t < W 0 4 → M.1 r t = nI (s t)) (hb : ∀ t, s t ≤ 1000) :
    ∃ M', f56 z u 18 (nI law) r (nI c) (nI n0) M = some (none, M') ∧ Fx (dS u r) M M' ∧ (∀ t, t < W 0 4 → M'.1 r t = nI ((qd W law c n0 s).1 t)) ∧ tX M' u (qd W law c n0 s).2.1 ∧ M'.1 u 1 = nI (qd W law c n0 s).2.2.1 ∧ M'.1 u 2 = nI (qd W law c n0 s).2.2.2 := by
  have hT : W 0 4 ≤ 16 := hW.2.2.2.2.1
  have hF0 : Fx (dS u r) M (am_u (am_u M.1 u 1 (nI 0)) u 2 (nI 0), M.2) := Fx.w (Fx.w Fx.id0 (.inl rfl)) (.inl rfl)
  obtain ⟨M1, e1, e2, e3, e4, e5, e6⟩ := c_pulls hz hW hu hr hn0 hn1 hn2 hl3 h200 hc 17 s 0 0 z (am_u (am_u M.1 u 1 (nI 0)) u 2 (nI 0), M.2) (by omega) (by omega) (nW_range hW s) (hC.fx hF0 (fun a q => by unfold dS at q; omega)) (by simp (disch := omega) only [u_row]; exact hs) hb (by simp (disch := omega) only [u_ne, u_self]) (by simp only [u_self])
  have hend := qr_end hW (law := law) (c := c) (n := n0) 17 s 0 0 (nW_range hW s)
  unfold f56
  simp only [n_0, n_1]
  rw [e1]
  unfold qd
  generalize qr W law c n0 17 s 0 0 = Q at *
  obtain ⟨n, M', e, hF, hI⟩ := lr0 (fun n k M' => f56_97 z n u 18 r (nI k) M') (W 0 4) (fun k M' => Fx (fun a => a = r) M1 M' ∧ (∀ t, t < W 0 4 → M'.1 r t = nI (wr k Q.1 Q.2.1.1 t))) z M1 (by omega) ⟨Fx.id0, fun t ht => by rw [e3 t ht]; unfold wr; rw [if_neg (by omega)]⟩ (by
    intro n k M' hk hI
    obtain ⟨hF, hI⟩ := hI
    have hC' : rC M' 18 W := (hC.fx (hF0.trans e2) (fun a q => by unfold dS at q; omega)).fx hF (fun a q => by omega)
    have hg' : ∀ t, t < 16 → M'.1 (u + 1) t = nI (Q.2.1.1 t) := by rw [hF.2 (u + 1) (by omega)]; exact e4.1
    have hsk : M'.1 r k = nI (Q.1 k) := by rw [hI k hk]; unfold wr; rw [if_neg (by omega)]
    have h1 := hend.1 k hk
    have h2 := hend.2.1 k
    have h3 := hb k
    have h4 : Q.2.1.1 k / 5 ≤ Q.2.1.1 k := Nat.div_le_self _ _
    rw [f56_97]
    simp (disch := omega) only [n_0, n_1, n_2, n_3, n_4, n_5, n_6, n_7, n_8, n_9, n_10, n_12, n_13, n_16, n_30, n_60, n_61, n_86, n_99, n_100, n_200, n_201, n_1023, n_65535, n_10000, n_1000000, ↓q_m1, q_add, q_addm, q_inB, q_cl, q_le, q_lt, q_eq, q_eqm, q_meq, q_mltT, q_ltm, q_lem, q_mleT, if_true, if_false, if_pos, if_neg, Nat.reduceAdd, Nat.reduceMul, Nat.add_zero, Nat.zero_add, not_true_eq_false, not_false_eq_true, u_row, u_self, u_ne, cb_bi, cb_bv, cb_bl, hC'.i5, hg', hsk, q_div, q_sub]
    refine ⟨_, rfl, Fx.w hF rfl, ?_⟩
    intro t ht
    show am_u M'.1 r k (nI (Q.1 k - Q.2.1.1 k / 5)) r t = nI (wr (k + 1) Q.1 Q.2.1.1 t)
    rw [u_at]
    by_cases q : t = k
    · rw [if_pos q, q]
      unfold wr
      rw [if_pos (by omega)]
    · rw [if_neg q, hI t ht]
      unfold wr
      by_cases q2 : t < k
      · rw [if_pos q2, if_pos (by omega)]
      · rw [if_neg q2, if_neg (by omega)])
  have hC' : rC M' 18 W := (hC.fx (hF0.trans e2) (fun a q => by unfold dS at q; omega)).fx hF (fun a q => by omega)
  refine ⟨M', ?_, (hF0.trans e2).trans (hF.mono (fun a q => by unfold dS; omega)), hI, ⟨?_, ?_, ?_, ?_⟩, ?_, ?_⟩
  · refine Eq.trans e ?_
    rw [f56_97]
    simp (disch := omega) only [n_0, n_1, n_2, n_3, n_4, n_5, n_6, n_7, n_8, n_9, n_10, n_12, n_13, n_16, n_30, n_60, n_61, n_86, n_99, n_100, n_200, n_201, n_1023, n_65535, n_10000, n_1000000, ↓q_m1, q_add, q_addm, q_inB, q_cl, q_le, q_lt, q_eq, q_eqm, q_meq, q_mltT, q_ltm, q_lem, q_mleT, if_true, if_false, if_pos, if_neg, Nat.reduceAdd, Nat.reduceMul, Nat.add_zero, Nat.zero_add, not_true_eq_false, not_false_eq_true, u_row, u_self, u_ne, cb_bi, cb_bv, cb_bl, hC'.i5]
  · rw [hF.2 (u + 1) (by omega)]; exact e4.1
  · rw [hF.2 (u + 2) (by omega)]; exact e4.2.1
  · rw [hF.2 u (by omega)]; exact e4.2.2.1
  · rw [hF.2 u (by omega)]; exact e4.2.2.2
  · rw [hF.2 u (by omega)]; exact e5
  · rw [hF.2 u (by omega)]; exact e6
