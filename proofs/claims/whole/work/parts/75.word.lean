/-! ===== words let in ===== -/
theorem RW.cc {M M' : aM} {W : cW} (h : RW M W) (hF : Fx (fun a => 113 ≤ a ∧ a ≤ 115) M M') (hA : cA M' W) : RW M' W := by
  obtain ⟨h1, h2, h3, h4, h5, h6, h7, h8, h9⟩ := h
  have r : ∀ a, ¬ (113 ≤ a ∧ a ≤ 115) → M'.1 a = M.1 a := hF.2
  refine ⟨h1, h2.of (fun a x1 x2 => r a (by omega)), by rw [r 206 (by omega)]; exact h3, h4.of h1 h1.1 (fun a x1 x2 => r a (by omega)), hA, h6.of (r 154 (by omega)) (r 208 (by omega)) (fun a x1 x2 => r a (by omega)) (r 207 (by omega)), h7.of (fun a x1 x2 => ⟨r a (by omega), by rw [hF.1]⟩) (r 229 (by omega)) (r 230 (by omega)) (by rw [hF.1]), ?_, ?_⟩
  · unfold rTape
    rw [r 205 (by omega), r 2 (by omega), r 3 (by omega), r 209 (by omega)]
    exact h8
  · unfold rFault
    rw [r 205 (by omega), r 1 (by omega)]
    exact h9
/-- the class's years that are tried: from asTold with changes to what hangs in the last year -/
theorem c_last {z : Nat} (hz : 2000 ≤ z) {M : aM} {W : cW} {y0 law : Nat} {h : Nat → Nat} {gn hd : Nat → Bool} (u : Nat) (hW : wf W) (hC : rC M 18 W) (hy : 32 ≤ y0) (hl : M.1 y0 0 = nI law) (hl3 : law ≤ 3) (hg : hB (M.1 y0 1) 16 gn) (hh : hB (M.1 y0 2) 10 hd) (hb : bd h) (hs : ∀ t, t < W 0 4 → M.1 (y0 + 2) t = nI (h t)) :
    ∃ M', f74 z y0 18 M = some (none, M') ∧ Fx (yF y0) M M' ∧ yR M' y0 W (lv W law gn hd h) (W 0 0) ∧ rC M' 18 W ∧ f66 z u 18 (y0 + 1 + (1 + W 0 0)) M' = some (some (.inl (nI (lH W (lv W law gn hd h)))), M') := by
  obtain ⟨M', a1, a2, a3⟩ := c_live hz hW hC hy hl hl3 hg hh hb hs
  have hC' := hC.fx a2 (fun a q => by unfold yF at q; omega)
  refine ⟨M', a1, a2, a3, hC', ?_⟩
  exact c_hang hz u hW hC' (fun t ht => by rw [show y0 + 1 + (1 + W 0 0) = y0 + 2 + W 0 0 by omega]; exact a3.1 _ (Nat.le_refl _) t ht) (fun t _ => lv_b hW _ _ _ hb (Nat.le_refl _) t)
theorem kR.ofY {M M' : aM} {y0 : Nat} (h : Fx (yF y0) M M') (hy : y0 = 74 ∨ y0 = 117) : kR M M' := kR.fx h (fun a q => by unfold yF at q; unfold Sc; omega)
theorem up_b {s : Nat → Nat} {t v : Nat} (h : bd s) (hv : v ≤ 1000) : bd (up s t v) := fun i => by
  unfold up
  split
  · exact hv
  · exact h i
theorem hT0_60 {W : cW} (hW : wf W) (t : Nat) : hT0 W t ≤ 60 := by
  unfold hT0
  split
  · rename_i q
    have := hW.2.2.2.2.2.2.2.2.1 t q
    omega
  · omega
/-- hungByWord -/
theorem c_word {z : Nat} (hz : 2000 ≤ z) {M : aM} {W : cW} (h : RW M W) {t m : Nat} (ht : t < W 0 4) (hm : m ≤ 60) : ∃ M', f46 z 18 (nI t) (nI m) M = some (some (.inl (nI (wdV W t m))), M') ∧ RW M' W := by
  have hN4 := h.n4
  have hN0 := h.n0
  have hlt : wdV W t m < 256 := lH_lt h.w _
  unfold f46
  rcases h.a.1 t m ht hm with q | q
  · obtain ⟨M1, a1, a2, a3, a4, a5, a6⟩ := c_asTold (z := z) (y0 := 74) h.w h.c (by omega)
    have k1 : kR M M1 := kR.fx a2 (fun a q => by unfold Sc; omega)
    have h1 := h.k k1
    have h60 := hT0_60 h.w t
    have hrow := a6 t ht
    have k2 : kR M1 (am_u M1.1 76 t (nI (hT0 W t + m)), M1.2) := kR.fx (S := fun a => a = 76) (Fx.w Fx.id0 rfl) (fun a q => by unfold Sc; omega)
    have h2 := h1.k k2
    obtain ⟨M3, b1, b2, b3, b4, b5⟩ := c_last hz (M := (am_u M1.1 76 t (nI (hT0 W t + m)), M1.2)) (y0 := 74) (law := W 0 1) (h := up (hT0 W) t (hT0 W t + m)) (gn := nB) (hd := nB) 71 h2.w h2.c (by omega) (by simp (disch := omega) only [u_row]; exact a3) h.w.2.1 (by simp (disch := omega) only [u_row, a4]; exact hB_0 16 (by omega)) (by simp (disch := omega) only [u_row, a5]; exact hB_0 10 (by omega)) (up_b (hT0_b h.w) (by omega)) (row_upg a6)
    have h3 := h2.k (kR.ofY b2 (.inl rfl))
    simp (disch := omega) only [n_0, n_1, n_2, n_3, n_4, n_5, n_6, n_7, n_8, n_9, n_10, n_12, n_13, n_16, n_30, n_60, n_61, n_86, n_99, n_100, n_200, n_201, n_1023, n_65535, n_10000, n_1000000, ↓q_m1, ↓q_m2, ↓q_m3, ↓q_m4, ↓q_m5, ↓q_m6, ↓q_m7, ↓q_m8, ↓q_m1000, ↓q_m100000, q_add, q_addm, q_inB, q_cl, q_le, q_lt, q_eq, q_eqm, q_meq, q_mltT, q_ltm, q_lem, q_mleT, if_true, if_false, if_pos, if_neg, Nat.reduceAdd, Nat.reduceMul, Nat.add_zero, Nat.zero_add, Nat.one_mul, not_true_eq_false, not_false_eq_true, u_row, u_self, u_ne, cb_bi, cb_bv, cb_bl, q_mul, q, hrow, a1, b1, b4.i1, b5]
    refine ⟨_, rfl, h3.cc (Fx.w Fx.id0 (by omega)) ?_⟩
    obtain ⟨c1, c2, c3⟩ := h3.a
    refine ⟨?_, ?_, ?_⟩
    · intro t' m' ht' hm'
      simp only [u_at]
      by_cases e : t' * 61 + m' = t * 61 + m
      · have e1 : t' = t := by omega
        have e2 : m' = m := by omega
        subst e1 e2
        rw [if_pos rfl]
        exact .inr rfl
      · rw [if_neg e]
        exact c1 t' m' ht' hm'
    · simp (disch := omega) only [u_row]
      exact c2
    · simp (disch := omega) only [u_row]
      exact c3
  · simp (disch := omega) only [n_0, n_1, n_2, n_3, n_4, n_5, n_6, n_7, n_8, n_9, n_10, n_12, n_13, n_16, n_30, n_60, n_61, n_86, n_99, n_100, n_200, n_201, n_1023, n_65535, n_10000, n_1000000, ↓q_m1, ↓q_m2, ↓q_m3, ↓q_m4, ↓q_m5, ↓q_m6, ↓q_m7, ↓q_m8, ↓q_m1000, ↓q_m100000, q_add, q_addm, q_inB, q_cl, q_le, q_lt, q_eq, q_eqm, q_meq, q_mltT, q_ltm, q_lem, q_mleT, if_true, if_false, if_pos, if_neg, Nat.reduceAdd, Nat.reduceMul, Nat.add_zero, Nat.zero_add, Nat.one_mul, not_true_eq_false, not_false_eq_true, u_row, u_self, u_ne, cb_bi, cb_bv, cb_bl, q_mul, q]
    exact ⟨M, rfl, h⟩
def wdB (W : cW) (X t : Nat) : Nat → Bool := fun m => decide (wdV W t m &&& X = X)
theorem q_andX (a b : Nat) : nI a &&& nI b = nI (a &&& b) := q_andN a b
/-- leastWord -/
theorem c_lword {z : Nat} (hz : 2000 ≤ z) {M : aM} {W : cW} (h : RW M W) {t X : Nat} (ht : t < W 0 4) (hX : X < 65536) : ∃ M', f123 z (nI t) (nI X) M = some (some (.inl (oI (fst (wdB W X t) 61))), M') ∧ RW M' W := by
  unfold f123
  simp only [n_0]
  obtain ⟨M', hI, e⟩ := leM (fun n k M' => f123_2 z n (nI t) (nI X) (nI k) M') 61 (wdB W X t) (fun k M' => some (some (.inl (nI k)), M')) (fun M' => some (some (.inl mI), M')) (fun M' => RW M' W) (by
    intro n k M' hk hI
    obtain ⟨M1, e1, e2⟩ := c_word hz hI ht (show k ≤ 60 by omega)
    have hlt : wdV W t k < 256 := lH_lt hI.w _
    have hle : wdV W t k &&& X ≤ X := Nat.and_le_right
    refine ⟨M1, e2, ?_⟩
    rw [f123_2]
    by_cases h1 : wdV W t k &&& X = X
    · have ep : wdB W X t k = true := by simp [wdB, h1]
      simp (disch := omega) only [n_0, n_1, n_2, n_3, n_4, n_5, n_6, n_7, n_8, n_9, n_10, n_12, n_13, n_16, n_30, n_60, n_61, n_86, n_99, n_100, n_200, n_201, n_1023, n_65535, n_10000, n_1000000, ↓q_m1, ↓q_m2, ↓q_m3, ↓q_m4, ↓q_m5, ↓q_m6, ↓q_m7, ↓q_m8, ↓q_m1000, ↓q_m100000, q_add, q_addm, q_inB, q_cl, q_le, q_lt, q_eq, q_eqm, q_meq, q_mltT, q_ltm, q_lem, q_mleT, if_true, if_false, if_pos, if_neg, Nat.reduceAdd, Nat.reduceMul, Nat.add_zero, Nat.zero_add, Nat.one_mul, not_true_eq_false, not_false_eq_true, u_row, u_self, u_ne, cb_bi, cb_bv, cb_bl, e1, q_andX, h1, ep]
    · have ep : wdB W X t k = false := by simp [wdB, h1]
      simp (disch := omega) only [n_0, n_1, n_2, n_3, n_4, n_5, n_6, n_7, n_8, n_9, n_10, n_12, n_13, n_16, n_30, n_60, n_61, n_86, n_99, n_100, n_200, n_201, n_1023, n_65535, n_10000, n_1000000, ↓q_m1, ↓q_m2, ↓q_m3, ↓q_m4, ↓q_m5, ↓q_m6, ↓q_m7, ↓q_m8, ↓q_m1000, ↓q_m100000, q_add, q_addm, q_inB, q_cl, q_le, q_lt, q_eq, q_eqm, q_meq, q_mltT, q_ltm, q_lem, q_mleT, if_true, if_false, if_pos, if_neg, Nat.reduceAdd, Nat.reduceMul, Nat.add_zero, Nat.zero_add, Nat.one_mul, not_true_eq_false, not_false_eq_true, u_row, u_self, u_ne, cb_bi, cb_bv, cb_bl, e1, q_andX, ep, Bool.false_eq_true]) (by
    intro n M' hI
    refine ⟨M', hI, ?_⟩
    rw [f123_2]
    simp (disch := omega) only [n_0, n_1, n_2, n_3, n_4, n_5, n_6, n_7, n_8, n_9, n_10, n_12, n_13, n_16, n_30, n_60, n_61, n_86, n_99, n_100, n_200, n_201, n_1023, n_65535, n_10000, n_1000000, ↓q_m1, ↓q_m2, ↓q_m3, ↓q_m4, ↓q_m5, ↓q_m6, ↓q_m7, ↓q_m8, ↓q_m1000, ↓q_m100000, q_add, q_addm, q_inB, q_cl, q_le, q_lt, q_eq, q_eqm, q_meq, q_mltT, q_ltm, q_lem, q_mleT, if_true, if_false, if_pos, if_neg, Nat.reduceAdd, Nat.reduceMul, Nat.add_zero, Nat.zero_add, Nat.one_mul, not_true_eq_false, not_false_eq_true, u_row, u_self, u_ne, cb_bi, cb_bv, cb_bl]) z M (by omega) h
  refine ⟨M', ?_, hI⟩
  refine Eq.trans e ?_
  cases fst (wdB W X t) 61 <;> rfl
def sz (m : Nat) : Option Nat → Nat
  | none => m
  | some k => k
/-- the model behind a change of what one thread holds -/
def mT (M : aM) (W : cW) (t : Nat) : Prop := rM (M.1 206) W ∧ M.1 205 16 = nI (W 0 1) ∧ M.1 205 17 = nI 65535 ∧ M.1 205 18 = nI 1023 ∧ (∀ i, i < W 0 4 → i ≠ t → M.1 212 i = nI (hT0 W i))
theorem mT.g {M M' : aM} {W : cW} {t : Nat} (h : mT M W t) (k : kG M M') : mT M' W t := ⟨by rw [k.r206]; exact h.1, by rw [k.2 16 (by omega)]; exact h.2.1, by rw [k.2 17 (by omega)]; exact h.2.2.1, by rw [k.2 18 (by omega)]; exact h.2.2.2.1, by rw [k.1.2 212 (by unfold gF; omega)]; exact h.2.2.2.2⟩
/-- goAll and hungLast -/
theorem m_go {z : Nat} (hz : 2000 ≤ z) {M : aM} {W : cW} (h : rM (M.1 206) W) (hW : wf W) {law : Nat} {s : Nat → Nat} {gn hd : Nat → Bool} (hl : M.1 205 16 = nI law) (hl3 : law ≤ 3) (hg : hB (M.1 205 17) 16 (nt gn)) (hh : hB (M.1 205 18) 10 (nt hd)) (hb : bd s) (hs : ∀ t, t < W 0 4 → M.1 212 t = nI (s t)) :
    ∃ M', f224 z M = some (none, M') ∧ kG M M' ∧ zR M' W (lv W law gn hd s) (W 0 0 + 1) ∧ f232 z M' = some (some (.inl (nI (lH W (lv W law gn hd s)))), M') := by
  obtain ⟨M', a1, a2, a3⟩ := m_goAll hz h hW hl hl3 hg hh hb hs
  exact ⟨M', a1, a2, a3, g232 hz (by rw [a2.r206]; exact h) hW a3 (fun t => lv_b hW _ _ _ hb (Nat.le_refl _) t)⟩
/-- wordOf -/
theorem m_word {z : Nat} (hz : 2000 ≤ z) {M : aM} {W : cW} (hW : wf W) {t X : Nat} (h : mT M W t) (ht : t < W 0 4) (hX : X < 65536) : ∃ M', f273 z (nI t) (nI X) M = some (some (.inl (nI (sz 61 (fst (wdB W X t) 61)))), M') ∧ kA M M' ∧ mT M' W t := by
  have hT : W 0 4 ≤ 16 := hW.2.2.2.2.1
  unfold f273
  simp only [n_0]
  obtain ⟨M', hI, e⟩ := leM (fun n k M' => f273_2 z n (nI t) (nI X) (nI k) M') 61 (wdB W X t) (fun k M' => some (some (.inl (nI k)), M')) (fun M' => some (some (.inl (nI 61)), M')) (fun M' => kA M M' ∧ mT M' W t) (by
    intro n k M' hk hI
    obtain ⟨hK, hI⟩ := hI
    have h60 := hT0_60 hW t
    have hho : M'.1 206 (8 + 3 * t + 2) = nI (hT0 W t) := by rw [(hI.1.2.1 t ht).2.2]; unfold hT0; rw [if_pos ht]
    have hKu : kA M' (am_u M'.1 212 t (nI (hT0 W t + k)), M'.2) := ⟨Fx.w Fx.id0 (by unfold aF; omega), fun j _ => by simp (disch := omega) only [u_row]⟩
    have hIu : mT (am_u M'.1 212 t (nI (hT0 W t + k)), M'.2) W t := by
      refine ⟨?_, ?_, ?_, ?_, ?_⟩
      · simp (disch := omega) only [u_row]; exact hI.1
      · simp (disch := omega) only [u_row]; exact hI.2.1
      · simp (disch := omega) only [u_row]; exact hI.2.2.1
      · simp (disch := omega) only [u_row]; exact hI.2.2.2.1
      · intro i hi hne
        simp (disch := omega) only [u_ne]; exact hI.2.2.2.2 i hi hne
    obtain ⟨M1, e1, e2, e3, e4⟩ := m_go hz (M := (am_u M'.1 212 t (nI (hT0 W t + k)), M'.2)) (law := W 0 1) (s := up (hT0 W) t (hT0 W t + k)) (gn := nB) (hd := nB) hIu.1 hW hIu.2.1 hW.2.1 (by rw [hIu.2.2.1]; exact hB_65535) (by rw [hIu.2.2.2.1]; exact hB_1023) (up_b (hT0_b hW) (by omega)) (fun i hi => by
      simp only [u_at, up]
      by_cases q : i = t
      · rw [if_pos q, if_pos q]
      · rw [if_neg q, if_neg q]; exact hI.2.2.2.2 i hi q)
    have ew : lH W (lv W (W 0 1) nB nB (up (hT0 W) t (hT0 W t + k))) = wdV W t k := rfl
    rw [ew] at e4
    have hlt : wdV W t k < 256 := lH_lt hW _
    have hle : wdV W t k &&& X ≤ X := Nat.and_le_right
    refine ⟨M1, ⟨(hK.trans hKu).trans (kA.ofG e2), hIu.g e2⟩, ?_⟩
    rw [f273_2]
    by_cases h1 : wdV W t k &&& X = X
    · have ep : wdB W X t k = true := by simp [wdB, h1]
      simp (disch := omega) only [n_0, n_1, n_2, n_3, n_4, n_5, n_6, n_7, n_8, n_9, n_10, n_12, n_13, n_16, n_30, n_60, n_61, n_86, n_99, n_100, n_200, n_201, n_1023, n_65535, n_10000, n_1000000, ↓q_m1, ↓q_m2, ↓q_m3, ↓q_m4, ↓q_m5, ↓q_m6, ↓q_m7, ↓q_m8, ↓q_m1000, ↓q_m100000, q_add, q_addm, q_inB, q_cl, q_le, q_lt, q_eq, q_eqm, q_meq, q_mltT, q_ltm, q_lem, q_mleT, if_true, if_false, if_pos, if_neg, Nat.reduceAdd, Nat.reduceMul, Nat.add_zero, Nat.zero_add, Nat.one_mul, not_true_eq_false, not_false_eq_true, u_row, u_self, u_ne, cb_bi, cb_bv, cb_bl, q_mul, hho, e1, e4, q_andX, h1, ep]
    · have ep : wdB W X t k = false := by simp [wdB, h1]
      simp (disch := omega) only [n_0, n_1, n_2, n_3, n_4, n_5, n_6, n_7, n_8, n_9, n_10, n_12, n_13, n_16, n_30, n_60, n_61, n_86, n_99, n_100, n_200, n_201, n_1023, n_65535, n_10000, n_1000000, ↓q_m1, ↓q_m2, ↓q_m3, ↓q_m4, ↓q_m5, ↓q_m6, ↓q_m7, ↓q_m8, ↓q_m1000, ↓q_m100000, q_add, q_addm, q_inB, q_cl, q_le, q_lt, q_eq, q_eqm, q_meq, q_mltT, q_ltm, q_lem, q_mleT, if_true, if_false, if_pos, if_neg, Nat.reduceAdd, Nat.reduceMul, Nat.add_zero, Nat.zero_add, Nat.one_mul, not_true_eq_false, not_false_eq_true, u_row, u_self, u_ne, cb_bi, cb_bv, cb_bl, q_mul, hho, e1, e4, q_andX, ep, Bool.false_eq_true]) (by
    intro n M' hI
    refine ⟨M', hI, ?_⟩
    rw [f273_2]
    simp (disch := omega) only [n_0, n_1, n_2, n_3, n_4, n_5, n_6, n_7, n_8, n_9, n_10, n_12, n_13, n_16, n_30, n_60, n_61, n_86, n_99, n_100, n_200, n_201, n_1023, n_65535, n_10000, n_1000000, ↓q_m1, ↓q_m2, ↓q_m3, ↓q_m4, ↓q_m5, ↓q_m6, ↓q_m7, ↓q_m8, ↓q_m1000, ↓q_m100000, q_add, q_addm, q_inB, q_cl, q_le, q_lt, q_eq, q_eqm, q_meq, q_mltT, q_ltm, q_lem, q_mleT, if_true, if_false, if_pos, if_neg, Nat.reduceAdd, Nat.reduceMul, Nat.add_zero, Nat.zero_add, Nat.one_mul, not_true_eq_false, not_false_eq_true, u_row, u_self, u_ne, cb_bi, cb_bv, cb_bl]) z M (by omega) ⟨kA.id0, h⟩
  refine ⟨M', ?_, hI⟩
  refine Eq.trans e ?_
  cases fst (wdB W X t) 61 <;> rfl
theorem g269z {z : Nat} {M : aM} {p : Nat → Bool} : f269 z (nI (sz 61 (fst p 61))) (nI 60) M = some (some (.inl (oI (fst p 61))), M) := by
  unfold f269
  cases e : fst p 61 with
  | none =>
    simp only [sz]
    simp (disch := omega) only [n_0, n_1, n_2, n_3, n_4, n_5, n_6, n_7, n_8, n_9, n_10, n_12, n_13, n_16, n_30, n_60, n_61, n_86, n_99, n_100, n_200, n_201, n_1023, n_65535, n_10000, n_1000000, ↓q_m1, ↓q_m2, ↓q_m3, ↓q_m4, ↓q_m5, ↓q_m6, ↓q_m7, ↓q_m8, ↓q_m1000, ↓q_m100000, q_add, q_addm, q_inB, q_cl, q_le, q_lt, q_eq, q_eqm, q_meq, q_mltT, q_ltm, q_lem, q_mleT, if_true, if_false, if_pos, if_neg, Nat.reduceAdd, Nat.reduceMul, Nat.add_zero, Nat.zero_add, Nat.one_mul, not_true_eq_false, not_false_eq_true, u_row, u_self, u_ne, cb_bi, cb_bv, cb_bl]
    rfl
  | some k =>
    have := (fst_s e).1
    simp only [sz]
    simp (disch := omega) only [n_0, n_1, n_2, n_3, n_4, n_5, n_6, n_7, n_8, n_9, n_10, n_12, n_13, n_16, n_30, n_60, n_61, n_86, n_99, n_100, n_200, n_201, n_1023, n_65535, n_10000, n_1000000, ↓q_m1, ↓q_m2, ↓q_m3, ↓q_m4, ↓q_m5, ↓q_m6, ↓q_m7, ↓q_m8, ↓q_m1000, ↓q_m100000, q_add, q_addm, q_inB, q_cl, q_le, q_lt, q_eq, q_eqm, q_meq, q_mltT, q_ltm, q_lem, q_mleT, if_true, if_false, if_pos, if_neg, Nat.reduceAdd, Nat.reduceMul, Nat.add_zero, Nat.zero_add, Nat.one_mul, not_true_eq_false, not_false_eq_true, u_row, u_self, u_ne, cb_bi, cb_bv, cb_bl]
    rfl
theorem mF.t {M : aM} {W : cW} (h : mF M W) (t : Nat) : mT M W t := ⟨h.1, h.2.1, h.2.2.1, h.2.2.2.1, fun i hi _ => h.2.2.2.2 i hi⟩
theorem PR.r {M M1 : aM} {W : cW} {o : Option aR} {g : aM → Option aR} {v : Int32} (e1 : o = some (some (.inl v), M1)) (h1 : RW M1 W) (e2 : ∃ M2, g M1 = some (some (.inl v), M2) ∧ kR M1 M2) : PR o g := by
  obtain ⟨M2, e, k⟩ := e2
  exact ⟨v, M1, M2, e1, e, W, h1.k k⟩
theorem pow8 {c : Nat} (h : c < 8) : 2 ^ c < 65536 := Nat.lt_of_lt_of_le (Nat.pow_lt_pow_right (a := 2) (by omega) h) (by omega)
theorem P_word {z : Nat} (hz : 2000 ≤ z) {M : aM} {W : cW} (h : RW M W) (x1 x2 : Int32) : PR (f122 z x1 x2 M) (f274 z x1 x2) := by
  have hN3 := h.n3
  by_cases o0 : okN (W 0 4) x1
  · obtain ⟨t, ht, rfl⟩ := o0
    by_cases o1 : okN (W 0 3) x2
    · obtain ⟨c, hc, rfl⟩ := o1
      obtain ⟨M1, e1, h1⟩ := c_lword hz h ht (pow8 (show c < 8 by omega))
      refine PR.r (M := M) (v := oI (fst (wdB W (2 ^ c) t) 61)) (M1 := M1) ?_ h1 ?_
      · simp only [f122, k9t h.c h.w ht, k8t h.c h.w hc, cb_bi, i1f, i1n]
        simp (disch := omega) only [n_0, n_1, n_2, n_3, n_4, n_5, n_6, n_7, n_8, n_9, n_10, n_12, n_13, n_16, n_30, n_60, n_61, n_86, n_99, n_100, n_200, n_201, n_1023, n_65535, n_10000, n_1000000, ↓q_m1, ↓q_m2, ↓q_m3, ↓q_m4, ↓q_m5, ↓q_m6, ↓q_m7, ↓q_m8, ↓q_m1000, ↓q_m100000, q_add, q_addm, q_inB, q_cl, q_le, q_lt, q_eq, q_eqm, q_meq, q_mltT, q_ltm, q_lem, q_mleT, if_true, if_false, if_pos, if_neg, Nat.reduceAdd, Nat.reduceMul, Nat.add_zero, Nat.zero_add, Nat.one_mul, not_true_eq_false, not_false_eq_true, u_row, u_self, u_ne, cb_bi, cb_bv, cb_bl, n_31, q_shl, e1]
      · obtain ⟨M2, a1, a2, a3⟩ := m_asF hz h1.m h1.w
        obtain ⟨M3, b1, b2, b3⟩ := m_word hz h1.w (a3.t t) ht (pow8 (show c < 8 by omega))
        refine ⟨M3, ?_, (kR.ofA a2).trans (kR.ofA b2)⟩
        simp only [f274, a1, k183t a3.1 h1.w ht, k182t a3.1 h1.w hc, cb_bi, cb_bv, i1f]
        simp (disch := omega) only [n_1, n_31, n_60, q_shl, b1, cb_bi, g269z]
    · refine PR.s h (v := -2) (by simp only [f122, k9t h.c h.w ht, k8f h.c h.w o1, cb_bi, i1f, i0n]) (fun M1 h1 => ?_)
      obtain ⟨M2, a1, a2, a3⟩ := m_asF hz h1.m h1.w
      exact ⟨M2, by simp only [f274, a1, k183t a3.1 h1.w ht, k182f a3.1 h1.w o1, cb_bi, cb_bv, i1f, i0f], kR.ofA a2⟩
  · refine PR.s h (v := -2) (by simp only [f122, k9f h.c h.w o0, cb_bi, i0f]) (fun M1 h1 => ?_)
    obtain ⟨M2, a1, a2, a3⟩ := m_asF hz h1.m h1.w
    exact ⟨M2, by simp only [f274, a1, k183f a3.1 h1.w o0, cb_bi, cb_bv, i0f], kR.ofA a2⟩
theorem pow8m {n : Nat} (h : n ≤ 8) : 2 ^ n - 1 < 65536 := by
  have := Nat.pow_le_pow_right (n := 2) (by omega) h
  omega
theorem P_mend {z : Nat} (hz : 2000 ≤ z) {M : aM} {W : cW} (h : RW M W) (x1 : Int32) : PR (f125 z x1 M) (f276 z x1) := by
  have hN3 := h.n3
  by_cases o0 : okN (W 0 4) x1
  · obtain ⟨t, ht, rfl⟩ := o0
    obtain ⟨M1, e1, h1⟩ := c_lword hz h ht (pow8m hN3)
    refine PR.r (M := M) (v := oI (fst (wdB W (2 ^ W 0 3 - 1) t) 61)) (M1 := M1) ?_ h1 ?_
    · simp only [f125, k9t h.c h.w ht, k13 h.c h.w, cb_bi, i1f, e1]
    · obtain ⟨M2, a1, a2, a3⟩ := m_asF hz h1.m h1.w
      obtain ⟨M3, b1, b2, b3⟩ := m_word hz h1.w (a3.t t) ht (pow8m hN3)
      refine ⟨M3, ?_, (kR.ofA a2).trans (kR.ofA b2)⟩
      simp only [f276, a1, k183t a3.1 h1.w ht, g233 a3.1 h1.w, cb_bi, cb_bv, i1f]
      simp only [n_60, b1, cb_bi, g269z]
  · refine PR.s h (v := -2) (by simp only [f125, k9f h.c h.w o0, cb_bi, i0f]) (fun M1 h1 => ?_)
    obtain ⟨M2, a1, a2, a3⟩ := m_asF hz h1.m h1.w
    exact ⟨M2, by simp only [f276, a1, k183f a3.1 h1.w o0, cb_bi, cb_bv, i0f], kR.ofA a2⟩
/-! darn -/
def dnS (n : Nat → Nat) : Nat → Option Nat × Nat
  | 0 => (none, 61)
  | t + 1 => if n t < (dnS n t).2 then (some t, n t) else dnS n t
theorem dn_ok (n : Nat → Nat) : ∀ k, ((dnS n k).1 = none ∧ (dnS n k).2 = 61 ∧ ∀ t, t < k → 61 ≤ n t) ∨ (∃ b, (dnS n k).1 = some b ∧ b < k ∧ (dnS n k).2 = n b ∧ n b < 61 ∧ (∀ t, t < b → n b < n t) ∧ (∀ t, t < k → n b ≤ n t))
  | 0 => .inl ⟨rfl, rfl, fun t ht => by omega⟩
  | k + 1 => by
    rcases dn_ok n k with ⟨h1, h2, h3⟩ | ⟨b, h1, h2, h3, h4, h5, h6⟩
    · by_cases q : n k < 61
      · have e : dnS n (k + 1) = (some k, n k) := if_pos (by rw [h2]; exact q)
        rw [e]
        exact .inr ⟨k, rfl, by omega, rfl, q, fun t ht => by have := h3 t ht; omega, fun t ht => by
          by_cases e : t = k
          · rw [e]; exact Nat.le_refl _
          · have := h3 t (by omega); omega⟩
      · have e : dnS n (k + 1) = dnS n k := if_neg (by rw [h2]; exact q)
        rw [e]
        exact .inl ⟨h1, h2, fun t ht => by
          by_cases e : t = k
          · rw [e]; omega
          · exact h3 t (by omega)⟩
    · by_cases q : n k < n b
      · have e : dnS n (k + 1) = (some k, n k) := if_pos (by rw [h3]; exact q)
        rw [e]
        exact .inr ⟨k, rfl, by omega, rfl, by omega, fun t ht => by have := h6 t ht; omega, fun t ht => by
          by_cases e : t = k
          · rw [e]; exact Nat.le_refl _
          · have := h6 t (by omega); omega⟩
      · have e : dnS n (k + 1) = dnS n k := if_neg (by rw [h3]; exact q)
        rw [e]
        exact .inr ⟨b, h1, by omega, h3, h4, h5, fun t ht => by
          by_cases e : t = k
          · rw [e]; omega
          · exact h6 t (by omega)⟩
def dnP (W : cW) (c m t : Nat) : Bool := decide (wdV W t m &&& 2 ^ c = 2 ^ c)
def dnQ (W : cW) (c : Nat) : Nat → Bool := fun m => (fst (dnP W c m) (W 0 4)).isSome
def dnR (W : cW) (c : Nat) : Option Nat := match fst (dnQ W c) 61 with
  | none => none
  | some m => fst (dnP W c m) (W 0 4)
theorem dn_eq (W : cW) (c : Nat) : dnR W c = (dnS (fun t => sz 61 (fst (wdB W (2 ^ c) t) 61)) (W 0 4)).1 := by
  have hle : ∀ t, sz 61 (fst (wdB W (2 ^ c) t) 61) ≤ 61 := by
    intro t
    cases e : fst (wdB W (2 ^ c) t) 61 with
    | none => exact Nat.le_refl _
    | some k => have := (fst_s e).1; show k ≤ 61; omega
  have hlo : ∀ t m, m ≤ 61 → (∀ m', m' < m → wdB W (2 ^ c) t m' = false) → m ≤ sz 61 (fst (wdB W (2 ^ c) t) 61) := by
    intro t m hm hh
    cases e : fst (wdB W (2 ^ c) t) 61 with
    | none => exact hm
    | some k =>
      show m ≤ k
      apply Classical.byContradiction
      intro q
      have := hh k (by omega)
      rw [(fst_s e).2.1] at this
      cases this
  have hup : ∀ t m, m < 61 → wdB W (2 ^ c) t m = true → sz 61 (fst (wdB W (2 ^ c) t) 61) ≤ m := by
    intro t m hm hh
    cases e : fst (wdB W (2 ^ c) t) 61 with
    | none => have := fst_n e m hm; rw [hh] at this; cases this
    | some k =>
      show k ≤ m
      apply Classical.byContradiction
      intro q
      have := (fst_s e).2.2 m (by omega)
      rw [hh] at this
      cases this
  have hpw : ∀ m t, dnP W c m t = wdB W (2 ^ c) t m := fun _ _ => rfl
  unfold dnR
  rcases dn_ok (fun t => sz 61 (fst (wdB W (2 ^ c) t) 61)) (W 0 4) with ⟨h1, h2, h3⟩ | ⟨b, h1, h2, h3, h4, h5, h6⟩
  · rw [h1]
    cases e : fst (dnQ W c) 61 with
    | none => rfl
    | some m =>
      exfalso
      obtain ⟨a1, a2, _⟩ := fst_s e
      unfold dnQ at a2
      cases e2 : fst (dnP W c m) (W 0 4) with
      | none => rw [e2] at a2; cases a2
      | some t =>
        obtain ⟨b1, b2, _⟩ := fst_s e2
        have := hup t m a1 (by rw [← hpw]; exact b2)
        have := h3 t b1
        omega
  · rw [h1]
    have hb : wdB W (2 ^ c) b (sz 61 (fst (wdB W (2 ^ c) b) 61)) = true := by
      cases e : fst (wdB W (2 ^ c) b) 61 with
      | none => rw [e] at h4; exact absurd h4 (by show ¬ 61 < 61; omega)
      | some k => exact (fst_s e).2.1
    cases e : fst (dnQ W c) 61 with
    | none =>
      exfalso
      have := fst_n e _ h4
      unfold dnQ at this
      cases e2 : fst (dnP W c (sz 61 (fst (wdB W (2 ^ c) b) 61))) (W 0 4) with
      | none => have := fst_n e2 b h2; rw [hpw, hb] at this; cases this
      | some t => rw [e2] at this; cases this
    | some m =>
      obtain ⟨a1, a2, a3⟩ := fst_s e
      have hm : m = sz 61 (fst (wdB W (2 ^ c) b) 61) := by
        apply Nat.le_antisymm
        · refine hlo b m (by omega) (fun m' hm' => ?_)
          have := a3 m' hm'
          unfold dnQ at this
          cases e2 : fst (dnP W c m') (W 0 4) with
          | none => rw [← hpw]; exact fst_n e2 b h2
          | some t => rw [e2] at this; cases this
        · unfold dnQ at a2
          cases e2 : fst (dnP W c m) (W 0 4) with
          | none => rw [e2] at a2; cases a2
          | some t =>
            obtain ⟨b1, b2, _⟩ := fst_s e2
            have x1 := hup t m a1 (by rw [← hpw]; exact b2)
            have x2 := h6 t b1
            omega
      simp only
      rw [← hm] at hb h5
      cases e2 : fst (dnP W c m) (W 0 4) with
      | none => have := fst_n e2 b h2; rw [hpw, hb] at this; cases this
      | some t =>
        obtain ⟨b1, b2, b3⟩ := fst_s e2
        congr 1
        apply Classical.byContradiction
        intro q
        by_cases q2 : t < b
        · have x1 := hup t m a1 (by rw [← hpw]; exact b2)
          have x2 := h5 t q2
          omega
        · have := b3 b (by omega)
          rw [hpw, hb] at this
          cases this
