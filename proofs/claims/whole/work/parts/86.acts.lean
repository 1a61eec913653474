/-! ===== acts ===== -/
def wA (W : cW) (k a n y : Nat) : cW := wu (wu (wu (wu (wu W 7 (W 0 6) k) 8 (W 0 6) a) 9 (W 0 6) n) 10 (W 0 6) y) 0 6 (W 0 6 + 1)
theorem wA_o (W : cW) (k a n y : Nat) {i j : Nat} (h1 : ¬ (i = 0 ∧ j = 6)) (h2 : ¬ (7 ≤ i ∧ i ≤ 10 ∧ j = W 0 6)) : wA W k a n y i j = W i j := by
  unfold wA
  simp (disch := omega) only [wu_n]
theorem wA_6 (W : cW) (k a n y : Nat) : wA W k a n y 0 6 = W 0 6 + 1 := wu_s _ _ _ _
theorem wA_7 (W : cW) (k a n y : Nat) : wA W k a n y 7 (W 0 6) = k := by
  unfold wA
  simp (disch := omega) only [wu_n, wu_s]
theorem wA_8 (W : cW) (k a n y : Nat) : wA W k a n y 8 (W 0 6) = a := by
  unfold wA
  simp (disch := omega) only [wu_n, wu_s]
theorem wA_9 (W : cW) (k a n y : Nat) : wA W k a n y 9 (W 0 6) = n := by
  unfold wA
  simp (disch := omega) only [wu_n, wu_s]
theorem wA_10 (W : cW) (k a n y : Nat) : wA W k a n y 10 (W 0 6) = y := by
  unfold wA
  simp (disch := omega) only [wu_n, wu_s]
theorem wf_A {W : cW} {k a n y : Nat} (h : wf W) (h7 : 0 < W 0 7) (h30 : W 0 6 < 30) (hk : (k = 0 ∧ a < W 0 4 ∧ 1 ≤ n ∧ n ≤ 60 ∧ y < 12) ∨ (k = 1 ∧ a < W 0 3 ∧ 1 ≤ n ∧ n ≤ 90 ∧ y < 12)) : wf (wA W k a n y) := by
  obtain ⟨a0, a1, a2, a3, a4, a5, a6, a7, b, c, d, e, f⟩ := h
  have o : ∀ i j, ¬ (i = 0 ∧ j = 6) → ¬ (7 ≤ i ∧ i ≤ 10 ∧ j = W 0 6) → wA W k a n y i j = W i j := fun i j h1 h2 => wA_o W k a n y h1 h2
  unfold wf
  rw [wA_6, o 0 0 (by omega) (by omega), o 0 1 (by omega) (by omega), o 0 2 (by omega) (by omega), o 0 3 (by omega) (by omega), o 0 4 (by omega) (by omega), o 0 5 (by omega) (by omega), o 0 7 (by omega) (by omega)]
  refine ⟨a0, a1, a2, a3, a4, a5, by omega, a7, fun t ht => ?_, fun q hq => ?_, fun i hi => ?_, fun q => by omega, f⟩
  · rw [o 1 t (by omega) (by omega), o 2 t (by omega) (by omega), o 3 t (by omega) (by omega)]
    exact b t ht
  · rw [o 4 q (by omega) (by omega), o 5 q (by omega) (by omega), o 6 q (by omega) (by omega)]
    exact c q hq
  · by_cases x : i = W 0 6
    · rw [x, wA_7, wA_8, wA_9, wA_10]
      exact hk
    · rw [o 7 i (by omega) (by omega), o 8 i (by omega) (by omega), o 9 i (by omega) (by omega), o 10 i (by omega) (by omega)]
      exact d i (by omega)
theorem c_append {z : Nat} {M : aM} {W : cW} (hW : wf W) (hC : rC M 18 W) {k a n y : Nat} (h30 : W 0 6 < 30) : ∃ M', f1 z 27 (nI k) (nI a) (nI n) (nI y) M = some (some (.inl (nI 1)), M') ∧ Fx (fun b => 27 ≤ b ∧ b ≤ 31) M M' ∧ rC M' 18 (wA W k a n y) := by
  have o : ∀ i j, ¬ (i = 0 ∧ j = 6) → ¬ (7 ≤ i ∧ i ≤ 10 ∧ j = W 0 6) → wA W k a n y i j = W i j := fun i j h1 h2 => wA_o W k a n y h1 h2
  have h4 : wA W k a n y 0 4 = W 0 4 := o 0 4 (by omega) (by omega)
  have h1 : ∀ t, wA W k a n y 1 t = W 1 t := fun t => o 1 t (by omega) (by omega)
  have hna := hC.na
  unfold f1 f1_52
  simp (disch := omega) only [n_0, n_1, n_2, n_3, n_4, n_5, n_6, n_7, n_8, n_9, n_10, n_12, n_13, n_16, n_30, n_60, n_61, n_86, n_99, n_100, n_200, n_201, n_1023, n_65535, n_10000, n_1000000, ↓q_m1, ↓q_m2, ↓q_m3, ↓q_m4, ↓q_m5, ↓q_m6, ↓q_m7, ↓q_m8, ↓q_m1000, ↓q_m100000, q_add, q_addm, q_inB, q_cl, q_le, q_lt, q_eq, q_eqm, q_meq, q_mltT, q_ltm, q_lem, q_mleT, if_true, if_false, if_pos, if_neg, Nat.reduceAdd, Nat.reduceMul, Nat.add_zero, Nat.zero_add, Nat.one_mul, not_true_eq_false, not_false_eq_true, u_row, u_self, u_ne, cb_bi, cb_bv, cb_bl, hna, z1]
  refine ⟨_, rfl, Fx.w (Fx.w (Fx.w (Fx.w (Fx.w Fx.id0 (by omega)) (by omega)) (by omega)) (by omega)) (by omega), ?_⟩
  obtain ⟨⟨a0, a1, a2, a3, a4, a5, a6⟩, b, c, d, e, f, g⟩ := hC
  refine ⟨⟨?_, ?_, ?_, ?_, ?_, ?_, ?_⟩, ?_, ?_, ?_, ?_, ?_, ?_⟩
  · simp (disch := omega) only [u_row]; rw [o 0 7 (by omega) (by omega)]; exact a0
  · simp (disch := omega) only [u_row]; rw [o 0 0 (by omega) (by omega)]; exact a1
  · simp (disch := omega) only [u_row]; rw [o 0 1 (by omega) (by omega)]; exact a2
  · simp (disch := omega) only [u_row]; rw [o 0 2 (by omega) (by omega)]; exact a3
  · simp (disch := omega) only [u_row]; rw [o 0 3 (by omega) (by omega)]; exact a4
  · simp (disch := omega) only [u_row]; rw [h4]; exact a5
  · simp (disch := omega) only [u_row]; rw [o 0 5 (by omega) (by omega)]; exact a6
  · intro t ht
    rw [h4] at ht
    simp (disch := omega) only [u_row]
    rw [h1, o 2 t (by omega) (by omega), o 3 t (by omega) (by omega)]
    exact b t ht
  · intro q hq
    rw [o 0 5 (by omega) (by omega)] at hq
    simp (disch := omega) only [u_row]
    rw [o 4 q (by omega) (by omega), o 5 q (by omega) (by omega), o 6 q (by omega) (by omega)]
    exact c q hq
  · intro j hj
    rw [bg_cong h4 h1]
    simp (disch := omega) only [u_row]; exact d j hj
  · intro j i hj hi
    rw [thr_cong h4 h1] at hi ⊢
    rw [bg_cong h4 h1]
    simp (disch := omega) only [u_row]; exact e j i hj hi
  · simp only [u_self]
    rw [wA_6]
  · intro i hi
    rw [wA_6] at hi
    simp (disch := omega) only [u_row, u_at, Nat.reduceAdd]
    by_cases x : i = W 0 6
    · rw [if_pos x, if_pos x, if_pos x, if_pos x, x, wA_7, wA_8, wA_9, wA_10]
      exact ⟨rfl, rfl, rfl, rfl⟩
    · rw [if_neg x, if_neg x, if_neg x, if_neg x, o 7 i (by omega) (by omega), o 8 i (by omega) (by omega), o 9 i (by omega) (by omega), o 10 i (by omega) (by omega)]
      exact g i (by omega)
theorem rM_A {M : aM} {W : cW} {k a n y v : Nat} (hW : wf W) (h : rM (M.1 206) W) (hv : v = (if k = 0 then 1000000 else 0) + (10000 * a + 100 * n + y)) : rM (am_u (am_u M.1 206 (86 + W 0 6) (nI v)) 206 6 (nI (W 0 6 + 1)) 206) (wA W k a n y) := by
  have hN4 : W 0 4 ≤ 16 := hW.2.2.2.2.1
  have hN5 : W 0 5 ≤ 10 := hW.2.2.2.2.2.1
  have o : ∀ i j, ¬ (i = 0 ∧ j = 6) → ¬ (7 ≤ i ∧ i ≤ 10 ∧ j = W 0 6) → wA W k a n y i j = W i j := fun i j h1 h2 => wA_o W k a n y h1 h2
  obtain ⟨⟨a0, a1, a2, a3, a4, a5, a6, a7⟩, b, c, d⟩ := h
  have hs : ∀ j, j ≠ 6 → j ≠ 86 + W 0 6 → am_u (am_u M.1 206 (86 + W 0 6) (nI v)) 206 6 (nI (W 0 6 + 1)) 206 j = M.1 206 j := fun j h1 h2 => by rw [u_ne h1, u_ne h2]
  refine ⟨⟨?_, ?_, ?_, ?_, ?_, ?_, ?_, ?_⟩, ?_, ?_, ?_⟩
  · rw [hs 0 (by omega) (by omega), o 0 0 (by omega) (by omega)]; exact a0
  · rw [hs 1 (by omega) (by omega), o 0 1 (by omega) (by omega)]; exact a1
  · rw [hs 2 (by omega) (by omega), o 0 2 (by omega) (by omega)]; exact a2
  · rw [hs 3 (by omega) (by omega), o 0 3 (by omega) (by omega)]; exact a3
  · rw [hs 4 (by omega) (by omega), o 0 4 (by omega) (by omega)]; exact a4
  · rw [hs 5 (by omega) (by omega), o 0 5 (by omega) (by omega)]; exact a5
  · rw [u_self, wA_6]
  · rw [hs 7 (by omega) (by omega), o 0 7 (by omega) (by omega)]; exact a7
  · intro t ht
    rw [o 0 4 (by omega) (by omega)] at ht
    rw [hs _ (by omega) (by omega), hs _ (by omega) (by omega), hs _ (by omega) (by omega), o 1 t (by omega) (by omega), o 2 t (by omega) (by omega), o 3 t (by omega) (by omega)]
    exact b t ht
  · intro q hq
    rw [o 0 5 (by omega) (by omega)] at hq
    rw [hs _ (by omega) (by omega), hs _ (by omega) (by omega), hs _ (by omega) (by omega), o 4 q (by omega) (by omega), o 5 q (by omega) (by omega), o 6 q (by omega) (by omega)]
    exact c q hq
  · intro i hi
    rw [wA_6] at hi
    unfold aE
    by_cases x : i = W 0 6
    · rw [x, u_ne (by omega), u_self, wA_7, wA_8, wA_9, wA_10, hv]
    · rw [hs _ (by omega) (by omega), o 7 i (by omega) (by omega), o 8 i (by omega) (by omega), o 9 i (by omega) (by omega), o 10 i (by omega) (by omega)]
      exact d i (by omega)
/-- act, on both sides -/
theorem P_act {z : Nat} (hz : 2000 ≤ z) {M : aM} {W : cW} (h : RW M W) {k a n y v : Nat} (h7 : 0 < W 0 7) (hk : (k = 0 ∧ a < W 0 4 ∧ 1 ≤ n ∧ n ≤ 60 ∧ y < 12) ∨ (k = 1 ∧ a < W 0 3 ∧ 1 ≤ n ∧ n ≤ 90 ∧ y < 12)) (hv : v = (if k = 0 then 1000000 else 0) + (10000 * a + 100 * n + y)) : ∃ u M1 M2, f153 z (nI k) (nI a) (nI n) (nI y) M = some (some (.inl u), M1) ∧ f312 z (nI v) M1 = some (some (.inl u), M2) ∧ rM (M1.1 206) W ∧ ∃ W', RW M2 W' := by
  have hA : W 0 6 ≤ 30 := h.w.2.2.2.2.2.2.1
  have e6 : am_inB (6 : Int32) 116 = true := by decide
  have e7 : (6 : Int32).toNatClampNeg = 6 := by decide
  have m6 : M.1 206 6 = nI (W 0 6) := h.m.1.2.2.2.2.2.2.1
  by_cases h30 : W 0 6 < 30
  · have hwf := wf_A h.w h7 h30 hk
    obtain ⟨M0, b1, b2, b3⟩ := c_append (z := z) (k := k) (a := a) (n := n) (y := y) h.w h.c h30
    obtain ⟨M1, a1, a2, a3, a4, a5⟩ := c_refresh hz hwf b3
    have hN0 : wA W k a n y 0 0 ≤ 12 := hwf.1
    have e66 : f66 z 67 18 (33 + (1 + wA W k a n y 0 0)) M1 = some (some (.inl (nI (lH (wA W k a n y) (tY (wA W k a n y))))), M1) := c_hang hz 67 hwf a3 (fun t ht => by rw [show 33 + (1 + wA W k a n y 0 0) = 32 + 2 + wA W k a n y 0 0 by omega]; exact a4.1 _ (Nat.le_refl _) t ht) (fun t _ => lv_b hwf _ _ _ (hT0_b hwf) (Nat.le_refl _) t)
    have hx1 : kX M M1 := (kX.fx b2 (fun a q => by omega)).trans (kX.rf a2)
    have r206 : M1.1 206 = M.1 206 := by rw [a2.2 206 (by unfold rfS; omega), b2.2 206 (by omega)]
    have n6 : M1.1 206 6 = nI (W 0 6) := by rw [r206]; exact m6
    have rm1 : rM (M1.1 206) W := by rw [r206]; exact h.m
    have hrA := rM_A (k := k) (a := a) (n := n) (y := y) h.w rm1 hv
    obtain ⟨M2, c1, c2, c3⟩ := m_asks hz (M := (am_u (am_u M1.1 206 (86 + W 0 6) (nI v)) 206 6 (nI (W 0 6 + 1)), M1.2)) hrA hwf
    have r2 : rM (M2.1 206) (wA W k a n y) := by rw [c2.r206]; exact hrA
    have e32 : f232 z M2 = some (some (.inl (nI (lH (wA W k a n y) (tY (wA W k a n y))))), M2) := g232 hz r2 hwf c3 (fun t => lv_b hwf _ _ _ (hT0_b hwf) (Nat.le_refl _) t)
    have kr2 := kR.ofA c2
    have ku : ∀ (x : Nat), x ≠ 206 → am_u (am_u M1.1 206 (86 + W 0 6) (nI v)) 206 6 (nI (W 0 6 + 1)) x = M1.1 x := fun x hx => by rw [u_row hx, u_row hx]
    have kx2 : kX M1 M2 := (kX.fx (S := fun a => a = 206) (Fx.w (Fx.w Fx.id0 rfl) rfl) (fun a q => by omega)).trans (kX.ofR kr2)
    refine ⟨nI (lH (wA W k a n y) (tY (wA W k a n y))), M1, M2, ?_, ?_, rm1, wA W k a n y, hwf, ?_, r2, ?_, ?_, (h.x.k hx1).k kx2⟩
    · unfold f153
      rw [b1, cb_bi, i1n, a1, cb_bv, a3.i1, if_pos (q_inB (show wA W k a n y 0 0 < 13 by omega) (by omega)), q_cl (by omega), Nat.one_mul, e66, cb_bi]
    · unfold f312
      simp only [if_pos e6, e7, n6]
      rw [n_30, if_pos (show ¬ nI (W 0 6) = nI 30 by rw [q_eq (by omega) (by omega)]; omega), n_86, q_add, if_pos (q_inB (show 86 + W 0 6 < 116 by omega) (by omega)), q_cl (by omega)]
      have e9 : am_u M1.1 206 (86 + W 0 6) (nI v) 206 6 = nI (W 0 6) := by rw [u_ne (by omega)]; exact n6
      simp only [e9, n_1, q_add, c1, cb_bi, e32]
    · exact a3.of (fun x q1 q2 => by rw [kr2.1 x (by omega) (by unfold Sc; omega)]; exact ku x (by omega))
    · exact a4.of hwf hwf.1 (fun x q1 q2 => by rw [kr2.1 x (by omega) (by unfold Sc; omega)]; exact ku x (by omega))
    · exact a5.of (by rw [kr2.1 113 (by omega) (by unfold Sc; omega)]; exact ku 113 (by omega)) (by rw [kr2.1 114 (by omega) (by unfold Sc; omega)]; exact ku 114 (by omega)) (by rw [kr2.1 115 (by omega) (by unfold Sc; omega)]; exact ku 115 (by omega))
  · have h30' : W 0 6 = 30 := by omega
    refine ⟨cm5, M, M, ?_, ?_, h.m, W, h⟩
    · unfold f153 f1
      rw [h.c.na, h30', n_30, if_neg (show ¬ nI 30 < nI 30 by decide), cb_bi, if_neg (by decide)]
      rfl
    · unfold f312
      rw [if_pos e6, e7, m6, h30', n_30, if_neg (show ¬ ¬ nI 30 = nI 30 from fun q => q rfl)]
      rfl
theorem P_sews {z : Nat} (hz : 2000 ≤ z) {M : aM} {W : cW} (h : RW M W) (x1 x2 x3 : Int32) : PR (f151 z x1 x2 x3 M) (f313 z x1 x2 x3) := by
  have hN0 := h.n0
  by_cases o1 : okN (W 0 4) x1
  · obtain ⟨t, ht, rfl⟩ := o1
    by_cases o2 : okW 1 60 x2
    · obtain ⟨m, hm1, hm2, rfl⟩ := o2
      by_cases o3 : okA W x3
      · obtain ⟨h7, y, hy, rfl⟩ := o3
        obtain ⟨v, M1, M2, p1, p2, r1, p3⟩ := P_act hz h (k := 0) (a := t) (n := m) (y := y) (v := 1000000 + (10000 * t + 100 * m + y)) h7 (.inl ⟨rfl, ht, hm1, hm2, by omega⟩) (by simp)
        refine ⟨v, M1, M2, ?_, ?_, p3⟩
        · simp only [f151, k9t h.c h.w ht, cb_bi, i1f]
          rw [n_1, n_60, k165t hm1 hm2 (by omega), cb_bi, i1f, k12t h.c h.w h7 hy, cb_bi, i1n, n_0]
          rw [p1, cb_bi]
        · simp only [f313, k183t r1 h.w ht, k170wt L1 L60 hm1 hm2 (by omega), k181t r1 h.w h7 hy, cb_bi, i1f]
          have ev : (((nI 1000000) + ((nI 10000) * nI t)) + ((nI 100) * nI m)) + nI y = nI (1000000 + (10000 * t + 100 * m + y)) := by
            simp only [q_mul, q_add]
            congr 1
            omega
          rw [n_1000000, n_10000, n_100, ev, p2, cb_bi]
      · refine PR.r (M := M) (v := -2) (M1 := M) ?_ h ⟨M, ?_, kR.id0⟩
        · simp only [f151, k9t h.c h.w ht, cb_bi, i1f]
          rw [n_1, n_60, k165t hm1 hm2 (by omega), cb_bi, i1f, k12f h.c h.w o3, cb_bi, i0n]
        · simp only [f313, k183t h.m h.w ht, k170wt L1 L60 hm1 hm2 (by omega), k181f h.m h.w o3, cb_bi, i1f, i0f]
    · refine PR.r (M := M) (v := -2) (M1 := M) ?_ h ⟨M, ?_, kR.id0⟩
      · simp only [f151, k9t h.c h.w ht, cb_bi, i1f]
        rw [n_1, n_60, k165f o2 (by omega) (by omega), cb_bi, i0f]
      · simp only [f313, k183t h.m h.w ht, k170wf L1 L60 o2 (by omega) (by omega), cb_bi, i1f, i0f]
  · refine PR.r (M := M) (v := -2) (M1 := M) ?_ h ⟨M, ?_, kR.id0⟩
    · simp only [f151, k9f h.c h.w o1, cb_bi, i0f]
    · simp only [f313, k183f h.m h.w o1, cb_bi, i0f]
theorem P_quarrels {z : Nat} (hz : 2000 ≤ z) {M : aM} {W : cW} (h : RW M W) (x1 x2 x3 : Int32) : PR (f152 z x1 x2 x3 M) (f314 z x1 x2 x3) := by
  have hN0 := h.n0
  by_cases o1 : okN (W 0 3) x1
  · obtain ⟨t, ht, rfl⟩ := o1
    by_cases o2 : okW 1 90 x2
    · obtain ⟨m, hm1, hm2, rfl⟩ := o2
      by_cases o3 : okA W x3
      · obtain ⟨h7, y, hy, rfl⟩ := o3
        obtain ⟨v, M1, M2, p1, p2, r1, p3⟩ := P_act hz h (k := 1) (a := t) (n := m) (y := y) (v := 10000 * t + 100 * m + y) h7 (.inr ⟨rfl, ht, hm1, hm2, by omega⟩) (by simp)
        refine ⟨v, M1, M2, ?_, ?_, p3⟩
        · simp only [f152, k8t h.c h.w ht, cb_bi, i1f]
          rw [n_1, n_90, k165t hm1 hm2 (by omega), cb_bi, i1f, k12t h.c h.w h7 hy, cb_bi, i1n]
          rw [p1, cb_bi]
        · simp only [f314, k182t r1 h.w ht, k170wt L1 L90 hm1 hm2 (by omega), k181t r1 h.w h7 hy, cb_bi, i1f]
          have ev : (((nI 10000) * nI t) + ((nI 100) * nI m)) + nI y = nI (10000 * t + 100 * m + y) := by
            simp only [q_mul, q_add]
          rw [n_10000, n_100, ev, p2, cb_bi]
      · refine PR.r (M := M) (v := -2) (M1 := M) ?_ h ⟨M, ?_, kR.id0⟩
        · simp only [f152, k8t h.c h.w ht, cb_bi, i1f]
          rw [n_1, n_90, k165t hm1 hm2 (by omega), cb_bi, i1f, k12f h.c h.w o3, cb_bi, i0n]
        · simp only [f314, k182t h.m h.w ht, k170wt L1 L90 hm1 hm2 (by omega), k181f h.m h.w o3, cb_bi, i1f, i0f]
    · refine PR.r (M := M) (v := -2) (M1 := M) ?_ h ⟨M, ?_, kR.id0⟩
      · simp only [f152, k8t h.c h.w ht, cb_bi, i1f]
        rw [n_1, n_90, k165f o2 (by omega) (by omega), cb_bi, i0f]
      · simp only [f314, k182t h.m h.w ht, k170wf L1 L90 o2 (by omega) (by omega), cb_bi, i1f, i0f]
  · refine PR.r (M := M) (v := -2) (M1 := M) ?_ h ⟨M, ?_, kR.id0⟩
    · simp only [f152, k8f h.c h.w o1, cb_bi, i0f]
    · simp only [f314, k182f h.m h.w o1, cb_bi, i0f]
