/-! ===== blame, dear, worse; by, law; worth ===== -/
/-- goAll, hungLast, bits -/
theorem m_run {z : Nat} (hz : 2000 ≤ z) {M : aM} {W : cW} (h : mA M W) (hW : wf W) {law : Nat} {gn hd : Nat → Bool} (hl : M.1 205 16 = nI law) (hl3 : law ≤ 3) (hg : hB (M.1 205 17) 16 (nt gn)) (hh : hB (M.1 205 18) 10 (nt hd)) :
    ∃ M', f224 z M = some (none, M') ∧ kG M M' ∧ mA M' W ∧ zR M' W (lv W law gn hd (hT0 W)) (W 0 0 + 1) ∧ f232 z M' = some (some (.inl (nI (lH W (lv W law gn hd (hT0 W))))), M') ∧ f171 z (nI (lH W (lv W law gn hd (hT0 W)))) M' = some (some (.inl (nI (pc (lH W (lv W law gn hd (hT0 W)))))), M') := by
  obtain ⟨M', a1, a2, a3, a4⟩ := m_go hz h.1 hW hl hl3 hg hh (hT0_b hW) h.2
  have hlt := lH_lt hW (lv W law gn hd (hT0 W))
  exact ⟨M', a1, a2, h.g a2, a3, a4, g171 hz M' (by omega)⟩
def blS (f : Nat → Nat) (m : Nat) : Nat → Option Nat × Nat
  | 0 => (none, m)
  | q + 1 => if (blS f m q).2 < f q then (some q, f q) else blS f m q
def deS (f : Nat → Nat) (m : Nat) : Nat → Option Nat × Nat
  | 0 => (none, m)
  | q + 1 => if f q < (deS f m q).2 then (some q, f q) else deS f m q
theorem blS_2 {f : Nat → Nat} {m : Nat} (hf : ∀ q, f q ≤ 16) (hm : m ≤ 16) : ∀ q, (blS f m q).2 ≤ 16
  | 0 => hm
  | q + 1 => by
    have ih := blS_2 hf hm q
    unfold blS
    split
    · exact hf q
    · exact ih
theorem deS_2 {f : Nat → Nat} {m : Nat} (hf : ∀ q, f q ≤ 16) (hm : m ≤ 16) : ∀ q, (deS f m q).2 ≤ 16
  | 0 => hm
  | q + 1 => by
    have ih := deS_2 hf hm q
    unfold deS
    split
    · exact hf q
    · exact ih
/-- but one quarrel -/
def hq1 (q : Nat) : Nat → Bool := fun k => decide (k = q)
def bmV (W : cW) (q : Nat) : Nat := pc (lH W (lv W (W 0 1) nB (hq1 q) (hT0 W)))
theorem k15 {z : Nat} {M : aM} {W : cW} (hC : rC M 18 W) (hW : wf W) : f15 z 18 M = some (some (.inl (nI (2 ^ W 0 5 - 1))), M) := by
  have hQ : W 0 5 ≤ 10 := hW.2.2.2.2.2.1
  have := Nat.two_pow_pos (W 0 5)
  unfold f15
  simp (disch := omega) only [hC.i6, n_31, n_1, q_shl, q_sub]
theorem pow10 {n : Nat} (h : n ≤ 10) : 2 ^ n ≤ 1024 := Nat.pow_le_pow_right (n := 2) (by omega) h
theorem bm_ev {W : cW} (hW : wf W) {q : Nat} (hq : q < W 0 5) : evV W ((2 ^ W 0 5 - 1) &&& (4294967295 - 2 ^ q)) = lH W (lv W (W 0 1) nB (hq1 q) (hT0 W)) := by
  have hQ : W 0 5 ≤ 10 := hW.2.2.2.2.2.1
  have hp : 2 ^ q ≤ 1024 := pow10 (by omega)
  unfold evV
  rw [lv_cong hW _ (fun _ _ => rfl) (hd' := hq1 q)]
  intro k hk
  have e1 := bt_and (2 ^ W 0 5 - 1) (4294967295 - 2 ^ q) k
  rw [bt_ones, bt_not (by omega) (by omega), bt_pow] at e1
  have e2 := bt_eq0 ((2 ^ W 0 5 - 1) &&& (4294967295 - 2 ^ q)) k
  unfold hq1
  by_cases e : k = q
  · subst e
    simp only [decide_true]
    rw [decide_eq_true_iff, e2, e1]
    simp
  · simp only [e, decide_false]
    rw [decide_eq_false_iff_not, e2, e1]
    simp [e, hk]
theorem hB_c {k : Nat} (hk : k < 10) : hB (nI (1023 &&& (4294967295 - 2 ^ k))) 10 (nt (hq1 k)) := by
  have hp : 2 ^ k ≤ 1024 := pow10 (by omega)
  have hX : 1023 &&& (4294967295 - 2 ^ k) < 2147483648 := Nat.lt_of_le_of_lt Nat.and_le_left (by omega)
  exact hB_n hX (by omega) (fun j hj => by
    have e1 := bt_and 1023 (4294967295 - 2 ^ k) j
    have e2 : (bt 1023 j = 1) = (j < 10) := bt_ones 10 j
    rw [e2, bt_not (by omega) (by omega), bt_pow] at e1
    rw [e1]
    unfold nt hq1
    simp [hj])
theorem c_bl1 {z : Nat} (hz : 2000 ≤ z) {M : aM} {W : cW} (h : RW M W) {k : Nat} (hk : k < W 0 5) : ∃ M', f47 z 18 (nI ((2 ^ W 0 5 - 1) &&& (4294967295 - 2 ^ k))) M = some (some (.inl (nI (lH W (lv W (W 0 1) nB (hq1 k) (hT0 W))))), M') ∧ RW M' W ∧ f328 z (nI (lH W (lv W (W 0 1) nB (hq1 k) (hT0 W)))) M' = some (some (.inl (nI (bmV W k))), M') := by
  have hN5 := h.n5
  have hp5 : 2 ^ W 0 5 ≤ 1024 := pow10 (by omega)
  have he : (2 ^ W 0 5 - 1) &&& (4294967295 - 2 ^ k) < 1024 := Nat.lt_of_le_of_lt Nat.and_le_left (by have := Nat.two_pow_pos (W 0 5); omega)
  obtain ⟨M2, a1, a2⟩ := c_ev hz h he
  rw [bm_ev h.w hk] at a1
  have hlt := lH_lt h.w (lv W (W 0 1) nB (hq1 k) (hT0 W))
  exact ⟨M2, a1, a2, g328 z M2 (by omega)⟩
theorem m_bl1 {z : Nat} (hz : 2000 ≤ z) {M : aM} {W : cW} (hW : wf W) {k : Nat} (hk : k < 10) (hA : mA M W) (h16 : M.1 205 16 = nI (W 0 1)) (h17 : M.1 205 17 = nI 65535) : ∃ M', f224 z (am_u M.1 205 18 (nI (1023 &&& (4294967295 - 2 ^ k))), M.2) = some (none, M') ∧ kA M M' ∧ mA M' W ∧ M'.1 205 16 = nI (W 0 1) ∧ M'.1 205 17 = nI 65535 ∧ f232 z M' = some (some (.inl (nI (lH W (lv W (W 0 1) nB (hq1 k) (hT0 W))))), M') ∧ f171 z (nI (lH W (lv W (W 0 1) nB (hq1 k) (hT0 W)))) M' = some (some (.inl (nI (bmV W k))), M') := by
  obtain ⟨M4, b1, b2, b3, b4, b5, b6⟩ := m_run hz (M := (am_u M.1 205 18 (nI (1023 &&& (4294967295 - 2 ^ k))), M.2)) (law := W 0 1) (gn := nB) (hd := hq1 k) hA.u hW (by simp (disch := omega) only [u_ne]; exact h16) hW.2.1 (by simp (disch := omega) only [u_ne, h17]; exact hB_65535) (by simp only [u_self]; exact hB_c hk)
  refine ⟨M4, b1, (kA.u (by omega) (by omega)).trans (kA.ofG b2), b3, ?_, ?_, b5, b6⟩
  · rw [b2.2 16 (by omega)]; simp (disch := omega) only [u_ne]; exact h16
  · rw [b2.2 17 (by omega)]; simp (disch := omega) only [u_ne]; exact h17
theorem c_bl2 {z : Nat} (hz : 2000 ≤ z) {M : aM} {W : cW} (h : RW M W) {k m : Nat} (hm : m ≤ 16) (hk : k < W 0 5) (n : Nat) (x : Int32) : ∃ M', f129_22 z (n + 1) x (nI m) (nI k) M = (if m < bmV W k then f129_22 z n (nI k) (nI (bmV W k)) (nI (k + 1)) M' else f129_22 z n x (nI m) (nI (k + 1)) M') ∧ RW M' W := by
  have hN5 := h.n5
  have hp : 2 ^ k ≤ 1024 := pow10 (by omega)
  obtain ⟨M2, a1, a2, a3⟩ := c_bl1 hz h hk
  have l1 : bmV W k ≤ 16 := pc_le _
  generalize bmV W k = v at *
  generalize lH W (lv W (W 0 1) nB (hq1 k) (hT0 W)) = u at *
  refine ⟨M2, ?_, a2⟩
  rw [f129_22, h.c.i6, if_neg (show ¬ nI (W 0 5) ≤ nI k by rw [q_le (by omega) (by omega)]; omega), k15 h.c h.w, cb_bi, q_m1, n_1, n_31, q_shl (show k < 31 by omega), q_not (by omega), a1, cb_bi, a3, cb_bi]
  simp (disch := omega) only [q_le, q_add]
  by_cases q : m < v
  · rw [if_pos q, if_neg (by omega)]
  · rw [if_neg q, if_pos (by omega)]
theorem m_bl2 {z : Nat} (hz : 2000 ≤ z) {M : aM} {W : cW} (hW : wf W) {k m : Nat} (hm : m ≤ 16) (hk : k < W 0 5) (hA : mA M W) (h16 : M.1 205 16 = nI (W 0 1)) (h17 : M.1 205 17 = nI 65535) (n : Nat) (x : Int32) : ∃ M', f280_22 z (n + 1) (nI m) x (nI k) M = (if m < bmV W k then f280_22 z n (nI (bmV W k)) (nI k) (nI (k + 1)) M' else f280_22 z n (nI m) x (nI (k + 1)) M') ∧ kA M M' ∧ mA M' W ∧ M'.1 205 16 = nI (W 0 1) ∧ M'.1 205 17 = nI 65535 := by
  have hN5 : W 0 5 ≤ 10 := hW.2.2.2.2.2.1
  have hp : 2 ^ k ≤ 1024 := pow10 (by omega)
  obtain ⟨M4, b1, b2, b3, b4, b7, b5, b6⟩ := m_bl1 hz hW (show k < 10 by omega) hA h16 h17
  have l1 : bmV W k ≤ 16 := pc_le _
  generalize bmV W k = v at *
  generalize lH W (lv W (W 0 1) nB (hq1 k) (hT0 W)) = u at *
  have en : nI 1023 &&& (nI (2 ^ k) ^^^ mI) = nI (1023 &&& (4294967295 - 2 ^ k)) := q_not (by omega)
  refine ⟨M4, ?_, b2, b3, b4, b7⟩
  rw [f280_22, g179 hA.1, cb_bi, if_neg (show ¬ nI (W 0 5) ≤ nI k by rw [q_le (by omega) (by omega)]; omega)]
  simp (disch := omega) only [↓q_m1, n_1, n_31, n_1023, q_shl, en, b1, cb_bv, b5, cb_bi, b6, q_lt, q_add]
theorem P_blame {z : Nat} (hz : 2000 ≤ z) {M : aM} {W : cW} (h : RW M W) : PR (f129 z M) (f280 z) := by
  have hN5 := h.n5
  have hf : ∀ q, bmV W q ≤ 16 := fun q => pc_le _
  have hm := pc_le (lH W (tY W))
  by_cases h7 : 0 < W 0 7
  · have e128 := k128 hz h
    obtain ⟨n1, M1, e1, h1⟩ := lr0 (fun n k M' => f129_22 z n (oI (blS (bmV W) (pc (lH W (tY W))) k).1) (nI (blS (bmV W) (pc (lH W (tY W))) k).2) (nI k) M') (W 0 5) (fun k M' => RW M' W) z M (by omega) h (by
      intro n k M' hk hI
      obtain ⟨M2, a1, a2⟩ := c_bl2 hz hI (blS_2 hf hm k) hk n (oI (blS (bmV W) (pc (lH W (tY W))) k).1)
      refine ⟨M2, a1.trans ?_, a2⟩
      by_cases q : (blS (bmV W) (pc (lH W (tY W))) k).2 < bmV W k
      · have es : blS (bmV W) (pc (lH W (tY W))) (k + 1) = (some k, bmV W k) := if_pos q
        rw [es, if_pos q, oI_s]
      · have es : blS (bmV W) (pc (lH W (tY W))) (k + 1) = blS (bmV W) (pc (lH W (tY W))) k := if_neg q
        rw [es, if_neg q])
    refine PR.r (M := M) (v := oI (blS (bmV W) (pc (lH W (tY W))) (W 0 5)).1) (M1 := M1) ?_ h1 ?_
    · simp only [f129, k7t h.c h.w h7, e128, cb_bi, i1n]
      refine Eq.trans e1 ?_
      rw [f129_22, h1.c.i6, if_pos (show nI (W 0 5) ≤ nI (W 0 5) by rw [q_le (by omega) (by omega)]; omega)]
    · obtain ⟨M2, e, k, r, R⟩ := m_CF hz h1
      rw [if_pos h7] at e
      have hlt := lH_lt h.w (tY W)
      have e32 : f232 z M2 = some (some (.inl (nI (lH W (tY W)))), M2) := g232 hz r.1 h1.w R (fun t => h1.rb (Nat.le_refl _) t)
      have e71 := g171 hz M2 (show lH W (tY W) < 2147483648 by omega)
      obtain ⟨n3, M3, e3, hK⟩ := lr0 (fun n k M' => f280_22 z n (nI (blS (bmV W) (pc (lH W (tY W))) k).2) (oI (blS (bmV W) (pc (lH W (tY W))) k).1) (nI k) M') (W 0 5) (fun k M' => kA M2 M' ∧ mA M' W ∧ M'.1 205 16 = nI (W 0 1) ∧ M'.1 205 17 = nI 65535) z M2 (by omega) ⟨kA.id0, r.a, r.2.1, r.2.2.1⟩ (by
        intro n k M' hk hI
        obtain ⟨hK, hA, h16, h17⟩ := hI
        obtain ⟨M4, b1, b2, b3, b4, b7⟩ := m_bl2 hz h1.w (blS_2 hf hm k) hk hA h16 h17 n (oI (blS (bmV W) (pc (lH W (tY W))) k).1)
        refine ⟨M4, b1.trans ?_, hK.trans b2, b3, b4, b7⟩
        by_cases q : (blS (bmV W) (pc (lH W (tY W))) k).2 < bmV W k
        · have es : blS (bmV W) (pc (lH W (tY W))) (k + 1) = (some k, bmV W k) := if_pos q
          rw [es, if_pos q, oI_s]
        · have es : blS (bmV W) (pc (lH W (tY W))) (k + 1) = blS (bmV W) (pc (lH W (tY W))) k := if_neg q
          rw [es, if_neg q])
      refine ⟨M3, ?_, k.trans (kR.ofA hK.1)⟩
      simp only [f280, e, cb_bi, i1n, e32, e71]
      refine Eq.trans e3 ?_
      rw [f280_22, g179 hK.2.1.1, cb_bi, if_pos (show nI (W 0 5) ≤ nI (W 0 5) by rw [q_le (by omega) (by omega)]; omega)]
  · refine PR.s h (v := -2) (by simp only [f129, k7f h.c h7, cb_bi, i0n]) (fun M1 h1 => ?_)
    obtain ⟨M2, e, k⟩ := m_Cf hz h1 h7
    exact ⟨M2, by simp only [f280, e, cb_bi, i0n], k⟩
/-- without one thread -/
theorem hB_p {q : Nat} (hq : q < 16) : hB (nI (2 ^ q)) 16 (hq1 q) := by
  have hp : 2 ^ q ≤ 65536 := Nat.pow_le_pow_right (n := 2) (by omega) (show q ≤ 16 by omega)
  exact hB_n (by omega) (by omega) (fun j _ => by rw [bt_pow]; unfold hq1; simp)
theorem m_wo1 {z : Nat} (hz : 2000 ≤ z) {M : aM} {W : cW} (hW : wf W) {q : Nat} (hq : q < 16) (h : mA M W) (h16 : M.1 205 16 = nI (W 0 1)) (h18 : M.1 205 18 = nI 1023) : ∃ M', f281 z (nI q) M = some (some (.inl (nI (woV W (hq1 q)))), M') ∧ kA M M' ∧ mA M' W ∧ M'.1 205 16 = nI (W 0 1) ∧ M'.1 205 18 = nI 1023 := by
  have hp : 2 ^ q ≤ 65536 := Nat.pow_le_pow_right (n := 2) (by omega) (show q ≤ 16 by omega)
  have hX : 65535 &&& (4294967295 - 2 ^ q) < 2147483648 := Nat.lt_of_le_of_lt Nat.and_le_left (by omega)
  have hh : hB (nI (65535 &&& (4294967295 - 2 ^ q))) 16 (nt (hq1 q)) := hB_n hX (by omega) (fun j hj => by
    have e1 := bt_and 65535 (4294967295 - 2 ^ q) j
    have e2 : (bt 65535 j = 1) = (j < 16) := bt_ones 16 j
    rw [e2, bt_not (by omega) (by omega), bt_pow] at e1
    rw [e1]
    unfold nt hq1
    simp [hj])
  obtain ⟨M4, b1, b2, b3, b4, b5, b6⟩ := m_run hz (M := (am_u M.1 205 17 (nI (65535 &&& (4294967295 - 2 ^ q))), M.2)) (law := W 0 1) (gn := hq1 q) (hd := nB) h.u hW (by simp (disch := omega) only [u_ne]; exact h16) hW.2.1 (by simp only [u_self]; exact hh) (by simp (disch := omega) only [u_ne, h18]; exact hB_1023)
  refine ⟨M4, ?_, (kA.u (by omega) (by omega)).trans (kA.ofG b2), b3, ?_, ?_⟩
  · unfold f281
    simp (disch := omega) only [n_1, n_31, n_65535, q_shl, ↓q_m1, q_not, b1, b5, b6, cb_bi, cb_bv]
    rfl
  · rw [b2.2 16 (by omega)]; simp (disch := omega) only [u_ne]; exact h16
  · rw [b2.2 18 (by omega)]; simp (disch := omega) only [u_ne]; exact h18
theorem P_dear {z : Nat} (hz : 2000 ≤ z) {M : aM} {W : cW} (h : RW M W) : PR (f130 z M) (f282 z) := by
  have hN4 := h.n4
  have hf : ∀ q, (fun q => woV W (hq1 q)) q ≤ 16 := fun q => woV_le _ _
  have hm := pc_le (lH W (tY W))
  by_cases h7 : 0 < W 0 7
  · obtain ⟨n1, M1, e1, h1⟩ := lr0 (fun n k M' => f130_22 z n (oI (deS (fun q => woV W (hq1 q)) (pc (lH W (tY W))) k).1) (nI (deS (fun q => woV W (hq1 q)) (pc (lH W (tY W))) k).2) (nI k) M') (W 0 4) (fun k M' => RW M' W) z M (by omega) h (by
      intro n k M' hk hI
      obtain ⟨M2, a1, a2⟩ := c_wo hz hI (hB_p (show k < 16 by omega))
      have l1 : woV W (hq1 k) ≤ 16 := hf k
      have l2 := deS_2 hf hm k
      refine ⟨M2, ?_, a2⟩
      rw [f130_22]
      simp (disch := omega) only [hI.c.i5, cb_bi, n_1, n_31, q_shl, a1]
      by_cases q : woV W (hq1 k) < (deS (fun q => woV W (hq1 q)) (pc (lH W (tY W))) k).2
      · have es : deS (fun q => woV W (hq1 q)) (pc (lH W (tY W))) (k + 1) = (some k, woV W (hq1 k)) := if_pos q
        rw [es]
        simp (disch := omega) only [n_0, n_1, n_2, n_3, n_4, n_5, n_6, n_7, n_8, n_9, n_10, n_12, n_13, n_16, n_30, n_60, n_61, n_86, n_99, n_100, n_200, n_201, n_1023, n_65535, n_10000, n_1000000, ↓q_m1, ↓q_m2, ↓q_m3, ↓q_m4, ↓q_m5, ↓q_m6, ↓q_m7, ↓q_m8, ↓q_m1000, ↓q_m100000, q_add, q_addm, q_inB, q_cl, q_le, q_lt, q_eq, q_eqm, q_meq, q_mltT, q_ltm, q_lem, q_mleT, if_true, if_false, if_pos, if_neg, Nat.reduceAdd, Nat.reduceMul, Nat.add_zero, Nat.zero_add, Nat.one_mul, not_true_eq_false, not_false_eq_true, u_row, u_self, u_ne, cb_bi, cb_bv, cb_bl, oI_s]
      · have es : deS (fun q => woV W (hq1 q)) (pc (lH W (tY W))) (k + 1) = deS (fun q => woV W (hq1 q)) (pc (lH W (tY W))) k := if_neg q
        rw [es]
        simp (disch := omega) only [n_0, n_1, n_2, n_3, n_4, n_5, n_6, n_7, n_8, n_9, n_10, n_12, n_13, n_16, n_30, n_60, n_61, n_86, n_99, n_100, n_200, n_201, n_1023, n_65535, n_10000, n_1000000, ↓q_m1, ↓q_m2, ↓q_m3, ↓q_m4, ↓q_m5, ↓q_m6, ↓q_m7, ↓q_m8, ↓q_m1000, ↓q_m100000, q_add, q_addm, q_inB, q_cl, q_le, q_lt, q_eq, q_eqm, q_meq, q_mltT, q_ltm, q_lem, q_mleT, if_true, if_false, if_pos, if_neg, Nat.reduceAdd, Nat.reduceMul, Nat.add_zero, Nat.zero_add, Nat.one_mul, not_true_eq_false, not_false_eq_true, u_row, u_self, u_ne, cb_bi, cb_bv, cb_bl])
    refine PR.r (M := M) (v := oI (deS (fun q => woV W (hq1 q)) (pc (lH W (tY W))) (W 0 4)).1) (M1 := M1) ?_ h1 ?_
    · simp only [f130, k7t h.c h.w h7, k128 hz h, cb_bi, i1n]
      refine Eq.trans e1 ?_
      rw [f130_22]
      simp (disch := omega) only [n_0, n_1, n_2, n_3, n_4, n_5, n_6, n_7, n_8, n_9, n_10, n_12, n_13, n_16, n_30, n_60, n_61, n_86, n_99, n_100, n_200, n_201, n_1023, n_65535, n_10000, n_1000000, ↓q_m1, ↓q_m2, ↓q_m3, ↓q_m4, ↓q_m5, ↓q_m6, ↓q_m7, ↓q_m8, ↓q_m1000, ↓q_m100000, q_add, q_addm, q_inB, q_cl, q_le, q_lt, q_eq, q_eqm, q_meq, q_mltT, q_ltm, q_lem, q_mleT, if_true, if_false, if_pos, if_neg, Nat.reduceAdd, Nat.reduceMul, Nat.add_zero, Nat.zero_add, Nat.one_mul, not_true_eq_false, not_false_eq_true, u_row, u_self, u_ne, cb_bi, cb_bv, cb_bl, h1.c.i5]
    · obtain ⟨M2, e, k, r, R⟩ := m_CF hz h1
      rw [if_pos h7] at e
      have hlt := lH_lt h.w (tY W)
      have e32 : f232 z M2 = some (some (.inl (nI (lH W (tY W)))), M2) := g232 hz r.1 h1.w R (fun t => h1.rb (Nat.le_refl _) t)
      obtain ⟨n3, M3, e3, hK⟩ := lr0 (fun n k M' => f282_22 z n (nI (deS (fun q => woV W (hq1 q)) (pc (lH W (tY W))) k).2) (oI (deS (fun q => woV W (hq1 q)) (pc (lH W (tY W))) k).1) (nI k) M') (W 0 4) (fun k M' => kA M2 M' ∧ mA M' W ∧ M'.1 205 16 = nI (W 0 1) ∧ M'.1 205 18 = nI 1023) z M2 (by omega) ⟨kA.id0, r.a, r.2.1, r.2.2.2.1⟩ (by
        intro n k M' hk hI
        obtain ⟨hK, hA, h16, h18⟩ := hI
        obtain ⟨M4, b1, b2, b3, b4, b5⟩ := m_wo1 hz h1.w (show k < 16 by omega) hA h16 h18
        have l1 : woV W (hq1 k) ≤ 16 := hf k
        have l2 := deS_2 hf hm k
        refine ⟨M4, ?_, hK.trans b2, b3, b4, b5⟩
        rw [f282_22, g178 hA.1, cb_bi]
        simp (disch := omega) only [b1, cb_bi]
        by_cases q : woV W (hq1 k) < (deS (fun q => woV W (hq1 q)) (pc (lH W (tY W))) k).2
        · have es : deS (fun q => woV W (hq1 q)) (pc (lH W (tY W))) (k + 1) = (some k, woV W (hq1 k)) := if_pos q
          rw [es]
          simp (disch := omega) only [n_0, n_1, n_2, n_3, n_4, n_5, n_6, n_7, n_8, n_9, n_10, n_12, n_13, n_16, n_30, n_60, n_61, n_86, n_99, n_100, n_200, n_201, n_1023, n_65535, n_10000, n_1000000, ↓q_m1, ↓q_m2, ↓q_m3, ↓q_m4, ↓q_m5, ↓q_m6, ↓q_m7, ↓q_m8, ↓q_m1000, ↓q_m100000, q_add, q_addm, q_inB, q_cl, q_le, q_lt, q_eq, q_eqm, q_meq, q_mltT, q_ltm, q_lem, q_mleT, if_true, if_false, if_pos, if_neg, Nat.reduceAdd, Nat.reduceMul, Nat.add_zero, Nat.zero_add, Nat.one_mul, not_true_eq_false, not_false_eq_true, u_row, u_self, u_ne, cb_bi, cb_bv, cb_bl, oI_s]
        · have es : deS (fun q => woV W (hq1 q)) (pc (lH W (tY W))) (k + 1) = deS (fun q => woV W (hq1 q)) (pc (lH W (tY W))) k := if_neg q
          rw [es]
          simp (disch := omega) only [n_0, n_1, n_2, n_3, n_4, n_5, n_6, n_7, n_8, n_9, n_10, n_12, n_13, n_16, n_30, n_60, n_61, n_86, n_99, n_100, n_200, n_201, n_1023, n_65535, n_10000, n_1000000, ↓q_m1, ↓q_m2, ↓q_m3, ↓q_m4, ↓q_m5, ↓q_m6, ↓q_m7, ↓q_m8, ↓q_m1000, ↓q_m100000, q_add, q_addm, q_inB, q_cl, q_le, q_lt, q_eq, q_eqm, q_meq, q_mltT, q_ltm, q_lem, q_mleT, if_true, if_false, if_pos, if_neg, Nat.reduceAdd, Nat.reduceMul, Nat.add_zero, Nat.zero_add, Nat.one_mul, not_true_eq_false, not_false_eq_true, u_row, u_self, u_ne, cb_bi, cb_bv, cb_bl])
      refine ⟨M3, ?_, k.trans (kR.ofA hK.1)⟩
      simp only [f282, e, cb_bi, i1n, e32, g171 hz M2 (show lH W (tY W) < 2147483648 by omega)]
      refine Eq.trans e3 ?_
      rw [f282_22, g178 hK.2.1.1, cb_bi]
      simp (disch := omega) only [n_0, n_1, n_2, n_3, n_4, n_5, n_6, n_7, n_8, n_9, n_10, n_12, n_13, n_16, n_30, n_60, n_61, n_86, n_99, n_100, n_200, n_201, n_1023, n_65535, n_10000, n_1000000, ↓q_m1, ↓q_m2, ↓q_m3, ↓q_m4, ↓q_m5, ↓q_m6, ↓q_m7, ↓q_m8, ↓q_m1000, ↓q_m100000, q_add, q_addm, q_inB, q_cl, q_le, q_lt, q_eq, q_eqm, q_meq, q_mltT, q_ltm, q_lem, q_mleT, if_true, if_false, if_pos, if_neg, Nat.reduceAdd, Nat.reduceMul, Nat.add_zero, Nat.zero_add, Nat.one_mul, not_true_eq_false, not_false_eq_true, u_row, u_self, u_ne, cb_bi, cb_bv, cb_bl]
  · refine PR.s h (v := -2) (by simp only [f130, k7f h.c h7, cb_bi, i0n]) (fun M1 h1 => ?_)
    obtain ⟨M2, e, k⟩ := m_Cf hz h1 h7
    exact ⟨M2, by simp only [f282, e, cb_bi, i0n], k⟩
theorem P_worse {z : Nat} (hz : 2000 ≤ z) {M : aM} {W : cW} (h : RW M W) : PR (f131 z M) (f283 z) := by
  have hN4 := h.n4
  have hf : ∀ q, (fun q => woV W (hq1 q)) q ≤ 16 := fun q => woV_le _ _
  have hm := pc_le (lH W (tY W))
  by_cases h7 : 0 < W 0 7
  · obtain ⟨n1, M1, e1, h1⟩ := lr0 (fun n k M' => f131_22 z n (oI (blS (fun q => woV W (hq1 q)) (pc (lH W (tY W))) k).1) (nI (blS (fun q => woV W (hq1 q)) (pc (lH W (tY W))) k).2) (nI k) M') (W 0 4) (fun k M' => RW M' W) z M (by omega) h (by
      intro n k M' hk hI
      obtain ⟨M2, a1, a2⟩ := c_wo hz hI (hB_p (show k < 16 by omega))
      have l1 : woV W (hq1 k) ≤ 16 := hf k
      have l2 := blS_2 hf hm k
      refine ⟨M2, ?_, a2⟩
      rw [f131_22]
      simp (disch := omega) only [hI.c.i5, cb_bi, n_1, n_31, q_shl, a1]
      by_cases q : (blS (fun q => woV W (hq1 q)) (pc (lH W (tY W))) k).2 < woV W (hq1 k)
      · have es : blS (fun q => woV W (hq1 q)) (pc (lH W (tY W))) (k + 1) = (some k, woV W (hq1 k)) := if_pos q
        rw [es]
        simp (disch := omega) only [n_0, n_1, n_2, n_3, n_4, n_5, n_6, n_7, n_8, n_9, n_10, n_12, n_13, n_16, n_30, n_60, n_61, n_86, n_99, n_100, n_200, n_201, n_1023, n_65535, n_10000, n_1000000, ↓q_m1, ↓q_m2, ↓q_m3, ↓q_m4, ↓q_m5, ↓q_m6, ↓q_m7, ↓q_m8, ↓q_m1000, ↓q_m100000, q_add, q_addm, q_inB, q_cl, q_le, q_lt, q_eq, q_eqm, q_meq, q_mltT, q_ltm, q_lem, q_mleT, if_true, if_false, if_pos, if_neg, Nat.reduceAdd, Nat.reduceMul, Nat.add_zero, Nat.zero_add, Nat.one_mul, not_true_eq_false, not_false_eq_true, u_row, u_self, u_ne, cb_bi, cb_bv, cb_bl, oI_s]
      · have es : blS (fun q => woV W (hq1 q)) (pc (lH W (tY W))) (k + 1) = blS (fun q => woV W (hq1 q)) (pc (lH W (tY W))) k := if_neg q
        rw [es]
        simp (disch := omega) only [n_0, n_1, n_2, n_3, n_4, n_5, n_6, n_7, n_8, n_9, n_10, n_12, n_13, n_16, n_30, n_60, n_61, n_86, n_99, n_100, n_200, n_201, n_1023, n_65535, n_10000, n_1000000, ↓q_m1, ↓q_m2, ↓q_m3, ↓q_m4, ↓q_m5, ↓q_m6, ↓q_m7, ↓q_m8, ↓q_m1000, ↓q_m100000, q_add, q_addm, q_inB, q_cl, q_le, q_lt, q_eq, q_eqm, q_meq, q_mltT, q_ltm, q_lem, q_mleT, if_true, if_false, if_pos, if_neg, Nat.reduceAdd, Nat.reduceMul, Nat.add_zero, Nat.zero_add, Nat.one_mul, not_true_eq_false, not_false_eq_true, u_row, u_self, u_ne, cb_bi, cb_bv, cb_bl])
    refine PR.r (M := M) (v := oI (blS (fun q => woV W (hq1 q)) (pc (lH W (tY W))) (W 0 4)).1) (M1 := M1) ?_ h1 ?_
    · simp only [f131, k7t h.c h.w h7, k128 hz h, cb_bi, i1n]
      refine Eq.trans e1 ?_
      rw [f131_22]
      simp (disch := omega) only [n_0, n_1, n_2, n_3, n_4, n_5, n_6, n_7, n_8, n_9, n_10, n_12, n_13, n_16, n_30, n_60, n_61, n_86, n_99, n_100, n_200, n_201, n_1023, n_65535, n_10000, n_1000000, ↓q_m1, ↓q_m2, ↓q_m3, ↓q_m4, ↓q_m5, ↓q_m6, ↓q_m7, ↓q_m8, ↓q_m1000, ↓q_m100000, q_add, q_addm, q_inB, q_cl, q_le, q_lt, q_eq, q_eqm, q_meq, q_mltT, q_ltm, q_lem, q_mleT, if_true, if_false, if_pos, if_neg, Nat.reduceAdd, Nat.reduceMul, Nat.add_zero, Nat.zero_add, Nat.one_mul, not_true_eq_false, not_false_eq_true, u_row, u_self, u_ne, cb_bi, cb_bv, cb_bl, h1.c.i5]
    · obtain ⟨M2, e, k, r, R⟩ := m_CF hz h1
      rw [if_pos h7] at e
      have hlt := lH_lt h.w (tY W)
      have e32 : f232 z M2 = some (some (.inl (nI (lH W (tY W)))), M2) := g232 hz r.1 h1.w R (fun t => h1.rb (Nat.le_refl _) t)
      obtain ⟨n3, M3, e3, hK⟩ := lr0 (fun n k M' => f283_22 z n (nI (blS (fun q => woV W (hq1 q)) (pc (lH W (tY W))) k).2) (oI (blS (fun q => woV W (hq1 q)) (pc (lH W (tY W))) k).1) (nI k) M') (W 0 4) (fun k M' => kA M2 M' ∧ mA M' W ∧ M'.1 205 16 = nI (W 0 1) ∧ M'.1 205 18 = nI 1023) z M2 (by omega) ⟨kA.id0, r.a, r.2.1, r.2.2.2.1⟩ (by
        intro n k M' hk hI
        obtain ⟨hK, hA, h16, h18⟩ := hI
        obtain ⟨M4, b1, b2, b3, b4, b5⟩ := m_wo1 hz h1.w (show k < 16 by omega) hA h16 h18
        have l1 : woV W (hq1 k) ≤ 16 := hf k
        have l2 := blS_2 hf hm k
        refine ⟨M4, ?_, hK.trans b2, b3, b4, b5⟩
        rw [f283_22, g178 hA.1, cb_bi]
        simp (disch := omega) only [b1, cb_bi]
        by_cases q : (blS (fun q => woV W (hq1 q)) (pc (lH W (tY W))) k).2 < woV W (hq1 k)
        · have es : blS (fun q => woV W (hq1 q)) (pc (lH W (tY W))) (k + 1) = (some k, woV W (hq1 k)) := if_pos q
          rw [es]
          simp (disch := omega) only [n_0, n_1, n_2, n_3, n_4, n_5, n_6, n_7, n_8, n_9, n_10, n_12, n_13, n_16, n_30, n_60, n_61, n_86, n_99, n_100, n_200, n_201, n_1023, n_65535, n_10000, n_1000000, ↓q_m1, ↓q_m2, ↓q_m3, ↓q_m4, ↓q_m5, ↓q_m6, ↓q_m7, ↓q_m8, ↓q_m1000, ↓q_m100000, q_add, q_addm, q_inB, q_cl, q_le, q_lt, q_eq, q_eqm, q_meq, q_mltT, q_ltm, q_lem, q_mleT, if_true, if_false, if_pos, if_neg, Nat.reduceAdd, Nat.reduceMul, Nat.add_zero, Nat.zero_add, Nat.one_mul, not_true_eq_false, not_false_eq_true, u_row, u_self, u_ne, cb_bi, cb_bv, cb_bl, oI_s]
        · have es : blS (fun q => woV W (hq1 q)) (pc (lH W (tY W))) (k + 1) = blS (fun q => woV W (hq1 q)) (pc (lH W (tY W))) k := if_neg q
          rw [es]
          simp (disch := omega) only [n_0, n_1, n_2, n_3, n_4, n_5, n_6, n_7, n_8, n_9, n_10, n_12, n_13, n_16, n_30, n_60, n_61, n_86, n_99, n_100, n_200, n_201, n_1023, n_65535, n_10000, n_1000000, ↓q_m1, ↓q_m2, ↓q_m3, ↓q_m4, ↓q_m5, ↓q_m6, ↓q_m7, ↓q_m8, ↓q_m1000, ↓q_m100000, q_add, q_addm, q_inB, q_cl, q_le, q_lt, q_eq, q_eqm, q_meq, q_mltT, q_ltm, q_lem, q_mleT, if_true, if_false, if_pos, if_neg, Nat.reduceAdd, Nat.reduceMul, Nat.add_zero, Nat.zero_add, Nat.one_mul, not_true_eq_false, not_false_eq_true, u_row, u_self, u_ne, cb_bi, cb_bv, cb_bl])
      refine ⟨M3, ?_, k.trans (kR.ofA hK.1)⟩
      simp only [f283, e, cb_bi, i1n, e32, g171 hz M2 (show lH W (tY W) < 2147483648 by omega)]
      refine Eq.trans e3 ?_
      rw [f283_22, g178 hK.2.1.1, cb_bi]
      simp (disch := omega) only [n_0, n_1, n_2, n_3, n_4, n_5, n_6, n_7, n_8, n_9, n_10, n_12, n_13, n_16, n_30, n_60, n_61, n_86, n_99, n_100, n_200, n_201, n_1023, n_65535, n_10000, n_1000000, ↓q_m1, ↓q_m2, ↓q_m3, ↓q_m4, ↓q_m5, ↓q_m6, ↓q_m7, ↓q_m8, ↓q_m1000, ↓q_m100000, q_add, q_addm, q_inB, q_cl, q_le, q_lt, q_eq, q_eqm, q_meq, q_mltT, q_ltm, q_lem, q_mleT, if_true, if_false, if_pos, if_neg, Nat.reduceAdd, Nat.reduceMul, Nat.add_zero, Nat.zero_add, Nat.one_mul, not_true_eq_false, not_false_eq_true, u_row, u_self, u_ne, cb_bi, cb_bv, cb_bl]
  · refine PR.s h (v := -2) (by simp only [f131, k7f h.c h7, cb_bi, i0n]) (fun M1 h1 => ?_)
    obtain ⟨M2, e, k⟩ := m_Cf hz h1 h7
    exact ⟨M2, by simp only [f283, e, cb_bi, i0n], k⟩
