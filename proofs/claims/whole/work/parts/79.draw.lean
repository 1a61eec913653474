/-! ===== evenings drawn ===== -/
def drN (y : Int64) : Int64 := ((1103515245 : Int64) * y + (12345 : Int64)) - ((1103515245 : Int64) * y + (12345 : Int64)) / (2147483648 : Int64) * (2147483648 : Int64)
def drX (y : Int64) : Nat → Int64
  | 0 => y
  | q + 1 => drN (drX y q)
def drP (o : Int32) (y : Int64) : Bool := decide (¬ 0 ≤ lg_cmp ((y / (65536 : Int64)) - (y / (65536 : Int64)) / (10 : Int64) * (10 : Int64)) (Int32.toInt64 o))
def drB (W : cW) (y : Int64) : Nat → Bool := fun q => drP (nI (W 0 2)) (drX y (q + 1))
def drE (W : cW) (y : Int64) : Nat := bN (drB W y) (W 0 5)
theorem drE_lt {W : cW} (hW : wf W) (y : Int64) : drE W y < 1024 := bN_ltm (m := 10) _ hW.2.2.2.2.2.1
/-- drawEvening -/
theorem c_draw {z : Nat} (hz : 2000 ≤ z) {M : aM} {W : cW} (h : RW M W) (x : Int32) : f157 z x M = some (some (.inl (nI (drE W x.toInt64))), M) := by
  have hN5 := h.n5
  unfold f157
  simp only [n_0]
  obtain ⟨n, e⟩ := lf0 (fun n k => f157_9 z n (drX x.toInt64 k) (nI (bN (drB W x.toInt64) k)) (nI k) M) (W 0 5) z (by omega) (by
    intro n k hk
    obtain ⟨z', hz'⟩ : ∃ z', z = z' + 1 := ⟨z - 1, by omega⟩
    rw [f157_9, h.c.i6, if_neg (show ¬ nI (W 0 5) ≤ nI k by rw [q_le (by omega) (by omega)]; omega)]
    have e1 : ∀ K a b c d, f157_33 z K z a b c d M = if c = 0 then none else f157_35 z K z (d - d / c * c) a b M := by
      intro K a b c d
      rw [hz', f157_33]
    have e2 : ∀ K a b c, f157_35 z K z a b c M = if (65536 : Int64) = 0 then none else if (10 : Int64) = 0 then none else if 0 ≤ (lg_cmp ((a / (65536 : Int64)) - (a / (65536 : Int64)) / (10 : Int64) * (10 : Int64)) (Int32.toInt64 (M.1 18 3))) then K a b (c + (1 : Int32)) M else K a (b ||| ((1 : Int32) <<< (c &&& 31))) (c + (1 : Int32)) M := by
      intro K a b c
      rw [hz', f157_35]
    rw [e1, if_neg (by decide), e2, if_neg (by decide), if_neg (by decide), h.c.i3, bN_or1]
    have e3 : drX x.toInt64 (k + 1) = drN (drX x.toInt64 k) := rfl
    have e4 : drB W x.toInt64 k = drP (nI (W 0 2)) (drN (drX x.toInt64 k)) := rfl
    rw [e3]
    have e5 : (1103515245 * drX x.toInt64 k + 12345 - (1103515245 * drX x.toInt64 k + 12345) / 2147483648 * 2147483648 : Int64) = drN (drX x.toInt64 k) := rfl
    rw [e5]
    generalize drN (drX x.toInt64 k) = y at *
    by_cases q : 0 ≤ lg_cmp ((y / (65536 : Int64)) - (y / (65536 : Int64)) / (10 : Int64) * (10 : Int64)) (Int32.toInt64 (nI (W 0 2)))
    · have ep : drB W x.toInt64 k = false := by rw [e4]; unfold drP; simp [q]
      rw [if_pos q, ep, if_neg (by decide), Nat.or_zero, n_1, q_add]
    · have ep : drB W x.toInt64 k = true := by rw [e4]; unfold drP; simp [q]
      rw [if_neg q, ep, if_pos rfl, n_1, n_31, q_shl (by omega), q_orN, q_add])
  refine Eq.trans e ?_
  rw [f157_9, h.c.i6, if_pos (show nI (W 0 5) ≤ nI (W 0 5) by rw [q_le (by omega) (by omega)]; omega)]
  rfl
/-- goDrawn -/
theorem m_draw {z : Nat} (hz : 2000 ≤ z) {M : aM} {W : cW} (r : rM (M.1 206) W) (hW : wf W) (y : Int64) : ∃ M', f317 z y M = some (none, M') ∧ kA M M' ∧ M'.1 205 18 = nI (drE W y) ∧ f232 z M' = some (some (.inl (nI (evV W (drE W y)))), M') := by
  have hN5 : W 0 5 ≤ 10 := hW.2.2.2.2.2.1
  obtain ⟨M1, a1, a2, a3⟩ := m_asF hz r hW
  have hu : ∀ v, kA M1 (am_u M1.1 205 18 v, M1.2) := fun v => kA.u (by omega) (by omega)
  obtain ⟨n, M2, e, hK, hA, h16, h17, h18⟩ := lr0 (fun n k M' => f317_14 z n (drX y k) (nI k) M') (W 0 5) (fun k M' => kA M1 M' ∧ mA M' W ∧ M'.1 205 16 = nI (W 0 1) ∧ M'.1 205 17 = nI 65535 ∧ M'.1 205 18 = nI (bN (drB W y) k)) z (am_u M1.1 205 18 (nI 0), M1.2) (by omega) ⟨hu _, a3.a.u, by simp (disch := omega) only [u_ne]; exact a3.2.1, by simp (disch := omega) only [u_ne]; exact a3.2.2.1, by simp only [u_self]; rfl⟩ (by
    intro n k M' hk hI
    obtain ⟨hK, hA, h16, h17, h18⟩ := hI
    obtain ⟨z', hz'⟩ : ∃ z', z = z' + 1 := ⟨z - 1, by omega⟩
    have h2 : M'.1 206 2 = nI (W 0 2) := hA.1.1.2.2.1
    rw [f317_14, g179 hA.1, cb_bi, if_neg (show ¬ nI (W 0 5) ≤ nI k by rw [q_le (by omega) (by omega)]; omega)]
    have e1 : ∀ K b c d, f317_35 z K z b c d M' = if c = 0 then none else f317_37 z K z (d - d / c * c) b M' := by
      intro K b c d
      rw [hz', f317_35]
    have e2 : ∀ K a c, f317_37 z K z a c M' = if (65536 : Int64) = 0 then none else if (10 : Int64) = 0 then none else if am_inB (2 : Int32) 116 then (if 0 ≤ (lg_cmp ((a / (65536 : Int64)) - (a / (65536 : Int64)) / (10 : Int64) * (10 : Int64)) (Int32.toInt64 (M'.1 206 (2 : Int32).toNatClampNeg))) then K a (c + (1 : Int32)) (am_u M'.1 205 18 ((M'.1 205 18) ||| (0 : Int32)), M'.2) else K a (c + (1 : Int32)) (am_u M'.1 205 18 ((M'.1 205 18) ||| ((1 : Int32) <<< (c &&& 31))), M'.2)) else none := by
      intro K a c
      rw [hz', f317_37]
    have e6 : am_inB (2 : Int32) 116 = true := by decide
    have e7 : (2 : Int32).toNatClampNeg = 2 := by decide
    rw [e1, if_neg (by decide), e2, if_neg (by decide), if_neg (by decide), if_pos e6, e7, h2, h18]
    have e3 : drX y (k + 1) = drN (drX y k) := rfl
    have e4 : drB W y k = drP (nI (W 0 2)) (drN (drX y k)) := rfl
    rw [e3]
    have e5 : (1103515245 * drX y k + 12345 - (1103515245 * drX y k + 12345) / 2147483648 * 2147483648 : Int64) = drN (drX y k) := rfl
    rw [e5]
    have fin : ∀ v, v = bN (drB W y) (k + 1) → kA M1 (am_u M'.1 205 18 (nI v), M'.2) ∧ mA (am_u M'.1 205 18 (nI v), M'.2) W ∧ (am_u M'.1 205 18 (nI v)) 205 16 = nI (W 0 1) ∧ (am_u M'.1 205 18 (nI v)) 205 17 = nI 65535 ∧ (am_u M'.1 205 18 (nI v)) 205 18 = nI (bN (drB W y) (k + 1)) := by
      intro v hv
      refine ⟨hK.trans (kA.u (by omega) (by omega)), hA.u, ?_, ?_, ?_⟩
      · rw [u_ne (by omega)]; exact h16
      · rw [u_ne (by omega)]; exact h17
      · rw [u_self, hv]
    rw [bN_or1] at fin
    generalize drN (drX y k) = w at *
    by_cases q : 0 ≤ lg_cmp ((w / (65536 : Int64)) - (w / (65536 : Int64)) / (10 : Int64) * (10 : Int64)) (Int32.toInt64 (nI (W 0 2)))
    · have ep : drB W y k = false := by rw [e4]; unfold drP; simp [q]
      rw [ep] at fin
      rw [if_pos q, n_0, q_orN, n_1, q_add, bN_or1, ep]
      exact ⟨_, rfl, fin _ rfl⟩
    · have ep : drB W y k = true := by rw [e4]; unfold drP; simp [q]
      rw [ep] at fin
      rw [if_neg q, n_1, n_31, q_shl (by omega), q_orN, q_add, bN_or1, ep]
      exact ⟨_, rfl, fin _ rfl⟩)
  have hlt := drE_lt hW y
  have hE : bN (drB W y) (W 0 5) = drE W y := rfl
  rw [hE] at h18
  obtain ⟨M3, b1, b2, b3, b4, b5, b6⟩ := m_run hz (M := M2) (law := W 0 1) (gn := nB) (hd := fun q => decide (bt (drE W y) q = 0)) hA hW h16 hW.2.1 (by rw [h17]; exact hB_65535) (by
    rw [h18]
    refine hB_n (by omega) (by omega) (fun k hk => ?_)
    have := bt_lt (drE W y) k
    unfold nt
    by_cases q : bt (drE W y) k = 0
    · simp [q]
    · have : bt (drE W y) k = 1 := by omega
      simp [this])
  refine ⟨M3, ?_, (a2.trans hK).trans (kA.ofG b2), by rw [b2.2 18 (by omega)]; exact h18, b5⟩
  unfold f317
  rw [a1, cb_bv]
  refine Eq.trans e ?_
  rw [f317_14, g179 hA.1, cb_bi, if_pos (show nI (W 0 5) ≤ nI (W 0 5) by rw [q_le (by omega) (by omega)]; omega), b1, cb_bv]
theorem L20 : (20 : Int64) = (nI 20).toInt64 := by decide
theorem L2e9 : (2000000000 : Int64) = (nI 2000000000).toInt64 := by decide
theorem L0 : (0 : Int64) = (nI 0).toInt64 := by decide
theorem k318t {z : Nat} {M : aM} {s : Nat} (h : s ≤ 2000000000) : f318 z (nI s) M = some (some (.inl (nI 1)), M) := by
  unfold f318
  rw [k170wt L0 L2e9 (Nat.zero_le s) h (by omega), cb_bi]
  rfl
theorem k318f {z : Nat} {M : aM} {x : Int32} (h : ¬ okW 0 2000000000 x) : f318 z x M = some (some (.inl (nI 0)), M) := by
  unfold f318
  rw [k170wf L0 L2e9 h (by omega) (by omega), cb_bi]
  rfl
theorem P_drawn {z : Nat} (hz : 2000 ≤ z) {M : aM} {W : cW} (h : RW M W) (x1 x2 : Int32) : PR (f156 z x1 x2 M) (f319 z x1 x2) := by
  by_cases h7 : 0 < W 0 7
  · by_cases o1 : okW 0 2000000000 x1
    · obtain ⟨s, _, hs, rfl⟩ := o1
      by_cases o2 : okW 0 1 x2
      · obtain ⟨w, _, hw, rfl⟩ := o2
        have e1 := c_draw hz h (nI s)
        have hlt := drE_lt h.w (nI s).toInt64
        obtain ⟨M1, e2, h1⟩ := c_ev hz h hlt
        generalize drE W (nI s).toInt64 = E at *
        have hw2 : w = 0 ∨ w = 1 := by omega
        rcases hw2 with rfl | rfl
        · refine PR.s h (v := nI (drE W (nI s).toInt64)) ?_ (fun M1 h1 => ?_)
          · have e1 := c_draw hz h (nI s)
            simp only [f156, k7t h.c h.w h7, cb_bi, i1f]
            rw [show (2000000000 : Int32) = nI 2000000000 from rfl, n_0, n_1, k165t (Nat.zero_le s) hs (by omega), cb_bi, j1f, k165t (Nat.zero_le 0) (show 0 ≤ 1 by omega) (by omega), cb_bi, j1n, e1, cb_bi, j0n]
          · obtain ⟨M2, b1, b2, b3, b4⟩ := m_draw hz h1.m h1.w (nI s).toInt64
            refine ⟨M2, ?_, kR.ofA b2⟩
            simp only [f319, g175t h1.m h1.w h7, k318t hs, k170t 1 L1 (by omega) (show 0 ≤ 1 by omega), cb_bi, i1f, i1n, b1, cb_bv, i0n, b3]
        · refine PR.r (M := M) (v := nI (evV W E)) (M1 := M1) ?_ h1 ?_
          · simp only [f156, k7t h.c h.w h7, cb_bi, i1f]
            rw [show (2000000000 : Int32) = nI 2000000000 from rfl, n_0, n_1, k165t (Nat.zero_le s) hs (by omega), cb_bi, j1f, k165t (Nat.zero_le 1) (show 1 ≤ 1 by omega) (by omega), cb_bi, j1n, e1, cb_bi, j1n, e2, cb_bi]
          · obtain ⟨M2, b1, b2, b3, b4⟩ := m_draw hz h1.m h1.w (nI s).toInt64
            refine ⟨M2, ?_, kR.ofA b2⟩
            have e9 := c_draw hz h (nI s)
            rw [e1] at e9
            have e10 : nI E = nI (drE W (nI s).toInt64) := by
              injection e9 with e9
              injection e9 with e9 _
              injection e9 with e9
              injection e9
            have l2 := drE_lt h.w (nI s).toInt64
            have e11 : E = drE W (nI s).toInt64 := by
              rw [q_eq (by omega) (by omega)] at e10
              exact e10
            rw [e11]
            simp only [f319, g175t h1.m h1.w h7, k318t hs, k170t 1 L1 (by omega) (show 1 ≤ 1 by omega), cb_bi, i1f, i1n, b1, cb_bv, b4]
      · refine PR.s h (v := -2) ?_ (fun M1 h1 => ⟨M1, ?_, kR.id0⟩)
        · simp only [f156, k7t h.c h.w h7, cb_bi, i1f]
          rw [show (2000000000 : Int32) = nI 2000000000 from rfl, n_0, n_1, k165t (Nat.zero_le s) hs (by omega), cb_bi, j1f, k165f o2 (by omega) (by omega), cb_bi, j0n]
        · simp only [f319, g175t h1.m h1.w h7, k318t hs, k170f 1 L1 (by omega) (okW01 o2), cb_bi, i1f, i0n]
    · refine PR.s h (v := -2) ?_ (fun M1 h1 => ⟨M1, ?_, kR.id0⟩)
      · simp only [f156, k7t h.c h.w h7, cb_bi, i1f]
        rw [show (2000000000 : Int32) = nI 2000000000 from rfl, n_0, k165f o1 (by omega) (by omega), cb_bi, j0f]
      · simp only [f319, g175t h1.m h1.w h7, k318f o1, cb_bi, i1f, i0f]
  · refine PR.s h (v := -2) (by simp only [f156, k7f h.c h7, cb_bi, i0f]) (fun M1 h1 => ⟨M1, by simp only [f319, g175f h1.m h1.w h7, cb_bi, i0f], kR.id0⟩)
/-! luck -/
def luS (W : cW) (s c : Nat) : Nat → Nat
  | 0 => 0
  | i + 1 => luS W s c i + bt (evV W (drE W (nI (s + i)).toInt64)) c
theorem lu_sum {s i : Nat} (h : s + i < 2147483648) : (nI s).toInt64 + (nI i).toInt64 = (nI (s + i)).toInt64 := by
  rw [nI_l (by omega), nI_l (by omega), nI_l (by omega), lN_add]
theorem P_luck {z : Nat} (hz : 2000 ≤ z) {M : aM} {W : cW} (h : RW M W) (x1 x2 x3 : Int32) : PR (f158 z x1 x2 x3 M) (f320 z x1 x2 x3) := by
  have hN3 := h.n3
  by_cases o3 : okN (W 0 3) x3
  · obtain ⟨c, hc, rfl⟩ := o3
    by_cases o1 : okW 0 2000000000 x1
    · obtain ⟨s, _, hs, rfl⟩ := o1
      by_cases o2 : okW 1 20 x2
      · obtain ⟨m, hm1, hm, rfl⟩ := o2
        obtain ⟨n1, M1, e1, h1⟩ := lr0 (fun n k M' => f158_41 z n (nI s) (nI m) (nI c) (nI (luS W s c k)) (nI k) M') m (fun k M' => RW M' W) z M (by omega) h (by
          intro n k M' hk hI
          have e1 := c_draw hz hI (nI (s + k))
          have hlt := drE_lt h.w (nI (s + k)).toInt64
          obtain ⟨M2, e2, h2⟩ := c_ev hz hI hlt
          have hev : evV W (drE W (nI (s + k)).toInt64) < 256 := lH_lt h.w _
          refine ⟨M2, ?_, h2⟩
          have el : luS W s c (k + 1) = luS W s c k + bt (evV W (drE W (nI (s + k)).toInt64)) c := rfl
          rw [el]
          generalize evV W (drE W (nI (s + k)).toInt64) = v at *
          generalize drE W (nI (s + k)).toInt64 = E at *
          rw [f158_41, if_neg (show ¬ nI m ≤ nI k by rw [q_le (by omega) (by omega)]; omega), q_add, e1, cb_bi, e2, cb_bi, n_31, n_1, q_bt (by omega) (by omega), q_add, q_add])
        refine PR.r (M := M) (v := nI (luS W s c m)) (M1 := M1) ?_ h1 ?_
        · simp only [f158, k8t h.c h.w hc, cb_bi, i1f]
          rw [show (2000000000 : Int32) = nI 2000000000 from rfl, n_0, n_1, n_20, k165t (Nat.zero_le s) hs (by omega), cb_bi, j1f, k165t hm1 hm (by omega), cb_bi, j1n]
          refine Eq.trans e1 ?_
          rw [f158_41, if_pos (show nI m ≤ nI m by rw [q_le (by omega) (by omega)]; omega)]
        · obtain ⟨n3, M3, e3, hK⟩ := lr0 (fun n k M' => f320_36 z n (nI s) (nI m) (nI c) (nI (luS W s c k)) (nI k) M') m (fun k M' => kA M1 M') z M1 (by omega) kA.id0 (by
            intro n k M' hk hK
            have r' : rM (M'.1 206) W := by rw [hK.r206]; exact h1.m
            obtain ⟨M2, b1, b2, b3, b4⟩ := m_draw hz r' h1.w (nI (s + k)).toInt64
            have hev : evV W (drE W (nI (s + k)).toInt64) < 256 := lH_lt h1.w _
            refine ⟨M2, ?_, hK.trans b2⟩
            have el : luS W s c (k + 1) = luS W s c k + bt (evV W (drE W (nI (s + k)).toInt64)) c := rfl
            rw [el]
            generalize evV W (drE W (nI (s + k)).toInt64) = v at *
            rw [f320_36, if_neg (show ¬ nI m ≤ nI k by rw [q_le (by omega) (by omega)]; omega), lu_sum (by omega), b1, cb_bv, b4, cb_bi, g172 z M2 (by omega) (by omega), cb_bi, n_1, q_add, q_add])
          refine ⟨M3, ?_, kR.ofA hK⟩
          simp only [f320, k318t hs, k170wt L1 L20 hm1 hm (by omega), k182t h1.m h1.w hc, cb_bi, i1f, i1n]
          refine Eq.trans e3 ?_
          rw [f320_36, if_pos (show nI m ≤ nI m by rw [q_le (by omega) (by omega)]; omega)]
      · refine PR.s h (v := -2) ?_ (fun M1 h1 => ⟨M1, ?_, kR.id0⟩)
        · simp only [f158, k8t h.c h.w hc, cb_bi, i1f]
          rw [show (2000000000 : Int32) = nI 2000000000 from rfl, n_0, n_1, n_20, k165t (Nat.zero_le s) hs (by omega), cb_bi, j1f, k165f o2 (by omega) (by omega), cb_bi, j0n]
        · simp only [f320, k318t hs, k170wf L1 L20 o2 (by omega) (by omega), cb_bi, i1f, i0f]
    · refine PR.s h (v := -2) ?_ (fun M1 h1 => ⟨M1, ?_, kR.id0⟩)
      · simp only [f158, k8t h.c h.w hc, cb_bi, i1f]
        rw [show (2000000000 : Int32) = nI 2000000000 from rfl, n_0, k165f o1 (by omega) (by omega), cb_bi, j0f]
      · simp only [f320, k318f o1, cb_bi, i0f]
  · refine PR.s h (v := -2) (by simp only [f158, k8f h.c h.w o3, cb_bi, i0f]) (fun M1 h1 => ⟨M1, ?_, kR.id0⟩)
    by_cases o1 : okW 0 2000000000 x1
    · obtain ⟨s, _, hs, rfl⟩ := o1
      by_cases o2 : okW 1 20 x2
      · obtain ⟨m, hm1, hm, rfl⟩ := o2
        simp only [f320, k318t hs, k170wt L1 L20 hm1 hm (by omega), k182f h1.m h1.w o3, cb_bi, i1f, i0n]
      · simp only [f320, k318t hs, k170wf L1 L20 o2 (by omega) (by omega), cb_bi, i1f, i0f]
    · simp only [f320, k318f o1, cb_bi, i0f]
