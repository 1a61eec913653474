/-! ===== keys ===== -/
def kyB (W : cW) (s : Nat → Nat) (c : Nat) : Nat → Bool := fun t => decide (bt (hg W (sw (up s t 0)) (W 0 3)) c = 0)
theorem hg_l8 {W : cW} (hW : wf W) (w : Nat → Bool) : hg W w (W 0 3) < 256 := Nat.lt_of_lt_of_le (hg_lt W _ _) (Nat.pow_le_pow_right (n := 2) (by omega) (show W 0 3 ≤ 8 from hW.2.2.2.1))
theorem c_keys {z : Nat} (hz : 2000 ≤ z) {M : aM} {W : cW} {s : Nat → Nat} {r c : Nat} (hW : wf W) (hC : rC M 18 W) (hr : r < 112) (hs : ∀ t, t < W 0 4 → M.1 r t = nI (s t)) (hb : ∀ t, s t ≤ 1000) (hc : c < W 0 3) : ∃ M', f54 z 18 r (nI c) M = some (some (.inl (nI (if bt (hg W (sw s) (W 0 3)) c = 1 then bN (kyB W s c) (W 0 4) else 0))), M') ∧ Fx (fun a => a = 112) M M' := by
  have hT : W 0 4 ≤ 16 := hW.2.2.2.2.1
  have hC8 : W 0 3 ≤ 8 := hW.2.2.2.1
  have hg0 := hg_l8 hW (sw s)
  have hbt := bt_lt (hg W (sw s) (W 0 3)) c
  unfold f54
  rw [c_hang hz 71 hW hC hs (fun t _ => hb t), cb_bi, n_31, n_1, q_bt (by omega) (by omega)]
  by_cases h1 : bt (hg W (sw s) (W 0 3)) c = 1
  · rw [h1, i1n, if_pos dp16, if_pos rfl, z_0, z_16, n_0]
    generalize hI : am_ua M.1 112 (va_cpy (M.1 r) (M.1 112) 0 0 16) = I
    have r1 : ∀ a, a ≠ 112 → I a = M.1 a := fun a ha => by rw [← hI, ua_row ha]
    have r2 : ∀ t, t < W 0 4 → I 112 t = nI (s t) := fun t ht => by
      rw [← hI, ua_self]
      unfold va_cpy
      rw [if_pos (by omega), Nat.sub_zero, Nat.zero_add]
      exact hs t ht
    have hF0 : Fx (fun a => a = 112) M ((I, M.2) : aM) := ⟨rfl, fun a ha => r1 a ha⟩
    obtain ⟨n, M', e, hF, hG⟩ := lr0 (fun n k M' => f54_37 z n 18 r (nI c) (nI (bN (kyB W s c) k)) (nI k) M') (W 0 4) (fun k M' => Fx (fun a => a = 112) M M' ∧ ∀ t, t < W 0 4 → M'.1 112 t = nI (s t)) z ((I, M.2) : aM) (by omega) ⟨hF0, r2⟩ (by
      intro n k M' hk hI
      obtain ⟨i1, i2⟩ := hI
      have hC' := hC.fx i1 (fun a q => by omega)
      have hC1 : rC ((am_u M'.1 112 k (nI 0), M'.2) : aM) 18 W := hC'.of (fun a q1 q2 => u_row (by omega))
      have hs1 : ∀ t, t < W 0 4 → ((am_u M'.1 112 k (nI 0), M'.2) : aM).1 112 t = nI (up s k 0 t) := row_upg i2
      have hb1 : ∀ t, t < W 0 4 → up s k 0 t ≤ 1000 := fun t _ => by
        unfold up
        split
        · omega
        · exact hb t
      have hg1 := hg_l8 hW (sw (up s k 0))
      have hbt1 := bt_lt (hg W (sw (up s k 0)) (W 0 3)) c
      have hrk : am_u M'.1 112 k (nI 0) r k = nI (s k) := by rw [u_row (by omega), i1.2 r (by omega)]; exact hs k hk
      have hin : am_inB (nI k) 16 = true := q_inB (by omega) (by omega)
      refine ⟨(am_u (am_u M'.1 112 k (nI 0)) 112 k (nI (s k)), M'.2), ?_, Fx.w (Fx.w i1 rfl) rfl, fun t ht => ?_⟩
      · rw [f54_37, hC'.i5, if_neg (show ¬ nI (W 0 4) ≤ nI k by rw [q_le (by omega) (by omega)]; omega), if_pos hin, q_cl (by omega), n_0]
        dsimp only
        rw [c_hang hz 71 hW hC1 hs1 hb1, cb_bi, n_31, n_1, q_bt (by omega) (by omega)]
        rw [bN_or1]
        unfold kyB
        by_cases h2 : bt (hg W (sw (up s k 0)) (W 0 3)) c = 1
        · rw [h2, if_pos (show ¬ nI 1 = nI 0 by decide), if_pos hin, if_pos hin]
          dsimp only
          rw [hrk, q_add]
          simp [h2]
        · have h2' : bt (hg W (sw (up s k 0)) (W 0 3)) c = 0 := by omega
          rw [h2', if_neg (show ¬ ¬ nI 0 = nI 0 from fun q => q rfl), if_pos hin, if_pos hin]
          dsimp only
          rw [hrk, q_add, q_shl (by omega), q_orN]
          simp [h2']
      · show am_u (am_u M'.1 112 k (nI 0)) 112 k (nI (s k)) 112 t = _
        rw [u_at]
        by_cases q : t = k
        · rw [if_pos q, q]
        · rw [if_neg q, u_ne q]; exact i2 t ht)
    have hC' := hC.fx hF (fun a q => by omega)
    refine ⟨M', ?_, hF⟩
    refine Eq.trans e ?_
    rw [f54_37, hC'.i5, if_pos (show nI (W 0 4) ≤ nI (W 0 4) by rw [q_le (by omega) (by omega)]; omega)]
  · have h1' : bt (hg W (sw s) (W 0 3)) c = 0 := by omega
    rw [h1', i0n, if_neg (by omega)]
    exact ⟨M, rfl, Fx.id0⟩
theorem up_w {s : Nat → Nat} {n t : Nat} (hn : n ≤ 16) (ht : t < n) : ∀ j, j < n → (bt (bN (sw s) n &&& (4294967295 - 2 ^ t)) j = 1) = (sw (up s t 0) j = true) := by
  have hp : 2 ^ t = bN (fun j => decide (j = t)) n := by
    apply Nat.eq_of_testBit_eq
    intro j
    rw [bN_tb, Nat.testBit_two_pow]
    by_cases q : j = t
    · simp [q, ht]
    · simp [q, show ¬ t = j from fun w => q w.symm]
  intro j hj
  rw [hp, bN_not _ _ hn, bt_bN _ hj]
  unfold sw up
  by_cases q : j = t
  · simp [q]
  · simp [q]
theorem hg_same {W : cW} {s : Nat → Nat} {t : Nat} (h : s t = 0) : up s t 0 = s := by
  funext j
  unfold up
  split
  · rename_i q
    rw [q, h]
  · rfl
theorem m_keys {z : Nat} (hz : 2000 ≤ z) {M : aM} {W : cW} {Y : cY} {m y c : Nat} (h : rM (M.1 206) W) (hW : wf W) (hR : zR M W Y m) (hm : m ≤ 13) (hy : y < m) (hb : ∀ t, Y y t ≤ 1000) (hc : c < W 0 3) (h1 : bt (hg W (sw (Y y)) (W 0 3)) c = 1) : f279_38 z z (nI c) (nI y) (nI 0) (nI 0) M = some (some (.inl (nI (bN (kyB W (Y y) c) (W 0 4)))), M) := by
  have hT : W 0 4 ≤ 16 := hW.2.2.2.2.1
  have hC8 : W 0 3 ≤ 8 := hW.2.2.2.1
  obtain ⟨n, e⟩ := lf0 (fun n k => f279_38 z n (nI c) (nI y) (nI (bN (kyB W (Y y) c) k)) (nI k) M) (W 0 4) z (by omega) (by
    intro n k hk
    have hX := bN_lt16 (sw (Y y)) hT
    have hb2 := bt_lt (bN (sw (Y y)) (W 0 4)) k
    have hsw := bt_bN (sw (Y y)) hk
    have g9 := g229 hz h hW hR hm hy hb
    rw [f279_38, g178 h, cb_bi, if_neg (show ¬ nI (W 0 4) ≤ nI k by rw [q_le (by omega) (by omega)]; omega), g9, cb_bi, g172 z M (by omega) (by omega), cb_bi, bN_or1]
    unfold kyB
    by_cases h0 : Y y k = 0
    · have e0 : bt (bN (sw (Y y)) (W 0 4)) k = 0 := by
        have : ¬ bt (bN (sw (Y y)) (W 0 4)) k = 1 := by rw [hsw]; simp [sw, h0]
        omega
      rw [e0, if_pos (show ¬ nI 0 = 1 by decide), hg_same (W := W) h0, h1, n_0, n_1, q_orN, q_add]
      simp
    · have e0 : bt (bN (sw (Y y)) (W 0 4)) k = 1 := by rw [hsw]; simp [sw]; omega
      have hg1 := hg_l8 hW (sw (up (Y y) k 0))
      have hbt1 := bt_lt (hg W (sw (up (Y y) k 0)) (W 0 3)) c
      have hp : 2 ^ k ≤ 65536 := Nat.pow_le_pow_right (n := 2) (by omega) (show k ≤ 16 by omega)
      rw [e0, if_neg (show ¬ ¬ nI 1 = 1 from fun q => q rfl), g9, cb_bi, q_m1, n_31, n_1, q_shl (by omega), q_not (by omega), m_hung hz h hW (X := bN (sw (Y y)) (W 0 4) &&& (4294967295 - 2 ^ k)) (Nat.lt_of_le_of_lt Nat.and_le_left hX) (up_w hT hk), cb_bi, g172 z M (by omega) (by omega), cb_bi]
      by_cases h2 : bt (hg W (sw (up (Y y) k 0)) (W 0 3)) c = 1
      · rw [h2, i1n, n_0, q_orN, q_add]
        simp
      · have h2' : bt (hg W (sw (up (Y y) k 0)) (W 0 3)) c = 0 := by omega
        rw [h2', i0n, q_orN, q_add]
        simp)
  refine Eq.trans e ?_
  rw [f279_38, g178 h, cb_bi, if_pos (show nI (W 0 4) ≤ nI (W 0 4) by rw [q_le (by omega) (by omega)]; omega)]
theorem P_keys {z : Nat} (hz : 2000 ≤ z) {M : aM} {W : cW} (h : RW M W) (x1 x2 : Int32) : PR (f127 z x1 x2 M) (f279 z x1 x2) := by
  have hN0 := h.n0
  have hN3 := h.n3
  by_cases o1 : okN (W 0 3) x1
  · obtain ⟨c, hc, rfl⟩ := o1
    by_cases o2 : okY W x2
    · obtain ⟨h7, y, hy, rfl⟩ := o2
      have hy' : y ≤ W 0 0 := by omega
      obtain ⟨M1, a1, a2⟩ := c_keys hz (s := tY W y) (r := 33 + (1 + y)) h.w h.c (by omega) (fun t ht => h.row hy' ht) (fun t => h.rb hy' t) hc
      have hg0 := hg_l8 h.w (sw (tY W y))
      have hbt := bt_lt (hg W (sw (tY W y)) (W 0 3)) c
      refine PR.q (M1 := M1) (v := nI (if bt (hg W (sw (tY W y)) (W 0 3)) c = 1 then bN (kyB W (tY W y) c) (W 0 4) else 0)) h ?_ (kR.fx a2 (fun a q => by unfold Sc; omega)) ?_
      · unfold f127
        rw [k8t h.c h.w hc, cb_bi, i1f, k11t h.c h.w h7 hy', cb_bi, i1n, if_pos (q_inB (show y < 13 by omega) (by omega)), q_cl (by omega), Nat.one_mul, a1, cb_bi]
      · intro N hN
        obtain ⟨N', b1, b2, b3, b4⟩ := m_Yt hz hN h7 hy'
        refine ⟨N', ?_, b2⟩
        unfold f279
        rw [b1, cb_bi, i1f, k182t b3 h.w hc, cb_bi, i1n, g231 hz b3 h.w b4 (by omega) (by omega) (fun t => h.rb hy' t), cb_bi, g172 z N' (by omega) (by omega), cb_bi]
        by_cases h1 : bt (hg W (sw (tY W y)) (W 0 3)) c = 1
        · rw [h1, i1n, if_pos rfl, n_0]
          exact m_keys hz b3 h.w b4 (by omega) (by omega) (fun t => h.rb hy' t) hc h1
        · have h1' : bt (hg W (sw (tY W y)) (W 0 3)) c = 0 := by omega
          rw [h1', i0n, if_neg (by omega)]
          rfl
    · refine PR.q (M1 := M) (v := -2) h ?_ kR.id0 ?_
      · unfold f127
        rw [k8t h.c h.w hc, cb_bi, i1f, k11f h.c h.w o2, cb_bi, i0n]
      · intro N hN
        obtain ⟨N', b1, b2⟩ := m_Yf hz hN o2
        refine ⟨N', ?_, b2⟩
        unfold f279
        rw [b1, cb_bi, i0f]
  · refine PR.q (M1 := M) (v := -2) h ?_ kR.id0 ?_
    · unfold f127
      rw [k8f h.c h.w o1, cb_bi, i0f]
    · intro N hN
      by_cases o2 : okY W x2
      · obtain ⟨h7, y, hy, rfl⟩ := o2
        obtain ⟨N', b1, b2, b3, b4⟩ := m_Yt hz hN h7 (show y ≤ W 0 0 by omega)
        refine ⟨N', ?_, b2⟩
        unfold f279
        rw [b1, cb_bi, i1f, k182f b3 h.w o1, cb_bi, i0n]
      · obtain ⟨N', b1, b2⟩ := m_Yf hz hN o2
        refine ⟨N', ?_, b2⟩
        unfold f279
        rw [b1, cb_bi, i0f]
/-! feed -/
def bB (x : Int32) (b : Nat) : Int32 := ((x >>> (nI (24 - 8 * b) &&& 31)).toInt8.toInt32).toInt8.toInt32
theorem bB_byt (x : Int32) (b : Nat) : byt (bB x b) := by
  unfold byt bB
  rw [Int8.toInt8_toInt32]
def sh8 (k : Nat) : Int32 := if k < 4 then nI (24 - 8 * k) else -8
theorem sh8_s : ∀ {k : Nat}, k < 4 → nI (24 - 8 * k) + (-8 : Int32) = sh8 (k + 1) := by decide
theorem c_f39 {z : Nat} (hz : 2000 ≤ z) {M : aM} {m : Nat} (x : Int32) (hm : M.1 2 1 = nI m) (h8 : m + 4 ≤ 800) : ∃ M', f39 z x M = some (none, M') ∧ Fx (fun a => a = 2 ∨ a = 3) M M' ∧ M'.1 2 1 = nI (m + 4) ∧ (∀ i, i < m → M'.1 3 i = M.1 3 i) ∧ ∀ b, b < 4 → M'.1 3 (m + b) = bB x b := by
  unfold f39
  obtain ⟨n, M', e, h1, h2, h3, h4⟩ := lr0 (fun n k M' => f39_3 z n x (sh8 k) M') 4 (fun k M' => Fx (fun a => a = 2 ∨ a = 3) M M' ∧ M'.1 2 1 = nI (m + k) ∧ (∀ i, i < m → M'.1 3 i = M.1 3 i) ∧ ∀ b, b < k → M'.1 3 (m + b) = bB x b) z M (by omega) ⟨Fx.id0, hm, fun _ _ => rfl, fun b hb => by omega⟩ (by
    intro n k M' hk hI
    obtain ⟨i1, i2, i3, i4⟩ := hI
    have es : sh8 k = nI (24 - 8 * k) := if_pos hk
    refine ⟨(am_u (am_u M'.1 3 (m + k) (bB x k)) 2 1 (nI (m + (k + 1))), M'.2), ?_, Fx.w (Fx.w i1 (Or.inr rfl)) (Or.inl rfl), (by simp only [u_self]), fun i hi => ?_, fun b hb => ?_⟩
    · rw [es, f39_3, if_neg (show ¬ nI (24 - 8 * k) < 0 by rw [n_0, q_lt (by omega) (by omega)]; omega), i2, n_800, if_neg (show ¬ nI 800 ≤ nI (m + k) by rw [q_le (by omega) (by omega)]; omega), if_pos (q_inB (show m + k < 800 by omega) (by omega)), q_cl (by omega)]
      dsimp only
      rw [u_row (show 2 ≠ 3 by omega), i2, n_1, q_add, sh8_s hk]
      rfl
    · show am_u (am_u M'.1 3 (m + k) (bB x k)) 2 1 (nI (m + (k + 1))) 3 i = _
      rw [u_row (by omega), u_ne (by omega)]; exact i3 i hi
    · show am_u (am_u M'.1 3 (m + k) (bB x k)) 2 1 (nI (m + (k + 1))) 3 (m + b) = _
      rw [u_row (by omega)]
      by_cases q : b = k
      · rw [q, u_self]
      · rw [u_ne (by omega)]; exact i4 b (by omega))
  refine ⟨M', ?_, h1, h2, h3, h4⟩
  refine Eq.trans e ?_
  rw [f39_3, if_pos (show sh8 4 < 0 by decide)]
def xw (x1 x2 x3 x4 x5 : Int32) (w : Nat) : Int32 := if w = 0 then x1 else if w = 1 then x2 else if w = 2 then x3 else if w = 3 then x4 else x5
theorem m_f188 {z : Nat} (hz : 2000 ≤ z) {M : aM} {m : Nat} (xs : Nat → Int32) (hm : M.1 205 5 = nI m) (h8 : m + 20 ≤ 800) (hx : ∀ w, w < 5 → M.1 210 w = xs w) : ∃ M', f188_55 z z (nI 0) M = some (some (.inl (nI (m + 20))), M') ∧ Fx (fun a => a = 205 ∨ a = 209) M M' ∧ M'.1 205 5 = nI (m + 20) ∧ (∀ j, j ≠ 5 → M'.1 205 j = M.1 205 j) ∧ (∀ i, i < m → M'.1 209 i = M.1 209 i) ∧ ∀ b, b < 20 → M'.1 209 (m + b) = bB (xs (b / 4)) (b % 4) := by
  obtain ⟨n, M', e, h1, h3, h4⟩ := lr0 (fun n k M' => f188_55 z n (nI k) M') 20 (fun k M' => Fx (fun a => a = 209) M M' ∧ (∀ i, i < m → M'.1 209 i = M.1 209 i) ∧ ∀ b, b < k → M'.1 209 (m + b) = bB (xs (b / 4)) (b % 4)) z M (by omega) ⟨Fx.id0, fun _ _ => rfl, fun b hb => by omega⟩ (by
    intro n k M' hk hI
    obtain ⟨i1, i3, i4⟩ := hI
    have e5 : M'.1 205 5 = nI m := by rw [i1.2 205 (by omega)]; exact hm
    have ed : nI k / (4 : Int32) = nI (k / 4) := by rw [n_4, q_div (by omega) (by omega) (by omega)]
    have em : nI k - nI (k / 4) * 4 = nI (k % 4) := by rw [n_4, q_mul, q_rem]
    have e10 : M'.1 210 (k / 4) = xs (k / 4) := by rw [i1.2 210 (by omega)]; exact hx _ (by omega)
    refine ⟨(am_u M'.1 209 (m + k) (bB (xs (k / 4)) (k % 4)), M'.2), ?_, Fx.w i1 rfl, fun i hi => ?_, fun b hb => ?_⟩
    · rw [f188_55, if_neg (show ¬ (20 : Int32) ≤ nI k by rw [n_20, q_le (by omega) (by omega)]; omega), if_neg (show ¬ (4 : Int32) = 0 by decide), ed, if_pos (q_inB (show k / 4 < 5 by omega) (by omega)), if_neg (show ¬ (4 : Int32) = 0 by decide), e5, q_add, if_pos (q_inB (show m + k < 800 by omega) (by omega)), q_cl (by omega), q_cl (by omega), em, e10, n_24, n_8, q_mul, q_sub (show 8 * (k % 4) ≤ 24 by omega), n_1, q_add]
      rfl
    · show am_u M'.1 209 (m + k) (bB (xs (k / 4)) (k % 4)) 209 i = _
      rw [u_ne (by omega)]; exact i3 i hi
    · show am_u M'.1 209 (m + k) (bB (xs (k / 4)) (k % 4)) 209 (m + b) = _
      by_cases q : b = k
      · rw [q, u_self]
      · rw [u_ne (by omega)]; exact i4 b (by omega))
  have e5 : M'.1 205 5 = nI m := by rw [h1.2 205 (by omega)]; exact hm
  refine ⟨(am_u M'.1 205 5 (nI (m + 20)), M'.2), ?_, Fx.w (h1.mono (fun a q => Or.inr q)) (Or.inl rfl), (by simp only [u_self]), fun j hj => ?_, fun i hi => ?_, fun b hb => ?_⟩
  · refine Eq.trans e ?_
    rw [f188_55, n_20, if_pos (show nI 20 ≤ nI 20 by decide), e5, q_add]
    dsimp only
    rw [u_self]
  · show am_u M'.1 205 5 (nI (m + 20)) 205 j = _
    rw [u_ne hj, h1.2 205 (by omega)]
  · show am_u M'.1 205 5 (nI (m + 20)) 209 i = _
    rw [u_row (by omega)]; exact h3 i hi
  · show am_u M'.1 205 5 (nI (m + 20)) 209 (m + b) = _
    rw [u_row (by omega)]; exact h4 b hb
theorem P_feed {z : Nat} (hz : 2000 ≤ z) {M : aM} {W : cW} (h : RW M W) (x1 x2 x3 x4 x5 : Int32) : PR (f80 z x1 x2 x3 x4 x5 M) (f188 z x1 x2 x3 x4 x5) := by
  obtain ⟨m, t1, t2, t3, t4⟩ := h.t
  by_cases h8 : m + 20 ≤ 800
  · obtain ⟨M1, a1, a2, a3, a4, a5⟩ := c_f39 hz x1 t2 (by omega)
    obtain ⟨M2, b1, b2, b3, b4, b5⟩ := c_f39 hz x2 a3 (by omega)
    obtain ⟨M3, c1, c2, c3, c4, c5⟩ := c_f39 hz x3 b3 (by omega)
    obtain ⟨M4, d1, d2, d3, d4, d5⟩ := c_f39 hz x4 c3 (by omega)
    obtain ⟨M5, e1, e2, e3, e4, e5⟩ := c_f39 hz x5 d3 (by omega)
    have hF : Fx (fun a => a = 2 ∨ a = 3) M M5 := (((a2.trans b2).trans c2).trans d2).trans e2
    have e3' : M5.1 2 1 = nI (m + 20) := e3
    have old : ∀ i, i < m → M5.1 3 i = M.1 3 i := fun i hi => by rw [e4 i (by omega), d4 i (by omega), c4 i (by omega), b4 i (by omega), a4 i hi]
    have new : ∀ b, b < 20 → M5.1 3 (m + b) = bB (xw x1 x2 x3 x4 x5 (b / 4)) (b % 4) := by
      intro b hb
      rcases (show b / 4 = 0 ∨ b / 4 = 1 ∨ b / 4 = 2 ∨ b / 4 = 3 ∨ b / 4 = 4 by omega) with q | q | q | q | q
      · rw [q, e4 _ (by omega), d4 _ (by omega), c4 _ (by omega), b4 _ (by omega), show m + b = m + b % 4 by omega]
        exact a5 _ (by omega)
      · rw [q, e4 _ (by omega), d4 _ (by omega), c4 _ (by omega), show m + b = m + 4 + b % 4 by omega]
        exact b5 _ (by omega)
      · rw [q, e4 _ (by omega), d4 _ (by omega), show m + b = m + 4 + 4 + b % 4 by omega]
        exact c5 _ (by omega)
      · rw [q, e4 _ (by omega), show m + b = m + 4 + 4 + 4 + b % 4 by omega]
        exact d5 _ (by omega)
      · rw [q, show m + b = m + 4 + 4 + 4 + 4 + b % 4 by omega]
        exact e5 _ (by omega)
    have t5 : M5.1 205 5 = nI m := by rw [hF.2 205 (by omega)]; exact t3
    obtain ⟨M6, g1, g2, g3, g4, g5, g6⟩ := m_f188 (M := (am_u (am_u (am_u (am_u (am_u M5.1 210 0 x1) 210 1 x2) 210 2 x3) 210 3 x4) 210 4 x5, M5.2)) hz (xw x1 x2 x3 x4 x5) (by simp (disch := omega) only [u_row]; exact t5) h8 (by
      intro w hw
      rcases (show w = 0 ∨ w = 1 ∨ w = 2 ∨ w = 3 ∨ w = 4 by omega) with rfl | rfl | rfl | rfl | rfl <;> simp (disch := omega) only [u_ne, u_self] <;> rfl)
    have r : ∀ a, a ≠ 2 → a ≠ 3 → a ≠ 205 → a ≠ 209 → a ≠ 210 → M6.1 a = M.1 a := fun a x1 x2 x3 x4 x5 => by
      rw [g2.2 a (by omega)]
      simp only [u_row x5]
      exact hF.2 a (by omega)
    have r5 : ∀ j, j ≠ 5 → M6.1 205 j = M.1 205 j := fun j hj => by
      rw [g4 j hj]
      simp (disch := omega) only [u_row]
      rw [hF.2 205 (by omega)]
    have r3 : ∀ a, a = 2 ∨ a = 3 → M6.1 a = M5.1 a := fun a q => by
      rw [g2.2 a (by omega)]
      simp (disch := omega) only [u_row]
    have l2 : M6.2 = M.2 := by rw [g2.1]; exact hF.1
    refine ⟨nI (m + 20), M5, M6, ?_, ?_, W, h.ch (fun a q => r a (by omega) (by omega) (by omega) (by omega) (by omega)) ⟨r5 12 (by omega), r5 13 (by omega)⟩ (h.i.of (r 154 (by omega) (by omega) (by omega) (by omega) (by omega)) (r 208 (by omega) (by omega) (by omega) (by omega) (by omega)) (fun a x1 x2 => r a (by omega) (by omega) (by omega) (by omega) (by omega)) (r 207 (by omega) (by omega) (by omega) (by omega) (by omega))) (h.s.of (fun a x1 x2 => ⟨r a (by omega) (by omega) (by omega) (by omega) (by omega), by rw [l2]⟩) (r 229 (by omega) (by omega) (by omega) (by omega) (by omega)) (r 230 (by omega) (by omega) (by omega) (by omega) (by omega)) (by rw [l2])) ⟨m + 20, h8, by rw [r3 2 (by omega)]; exact e3', g3, fun i hi => ?_⟩⟩
    · unfold f80
      rw [t2, n_20, q_add, n_800, if_pos (show nI (m + 20) ≤ nI 800 by rw [q_le (by omega) (by omega)]; omega), a1, cb_bv, b1, cb_bv, c1, cb_bv, d1, cb_bv, e1, cb_bv, e3']
    · unfold f188 f188_44
      rw [t5, n_20, q_add, n_800, if_pos (show nI (m + 20) ≤ nI 800 by rw [q_le (by omega) (by omega)]; omega), if_pos (by decide), if_pos (by decide), if_pos (by decide), if_pos (by decide), if_pos (by decide)]
      exact g1
    · rw [r3 3 (by omega)]
      by_cases q : i < m
      · rw [old i q, g5 i q]
        simp (disch := omega) only [u_row]
        rw [hF.2 209 (by omega)]
        exact t4 i q
      · have n1 := new (i - m) (by omega)
        have n2 := g6 (i - m) (by omega)
        rw [show m + (i - m) = i by omega] at n1 n2
        rw [n1, n2]
        exact ⟨rfl, bB_byt _ _⟩
  · refine ⟨-1, M, M, ?_, ?_, W, h⟩
    · unfold f80
      rw [t2, n_20, q_add, n_800, if_neg (show ¬ nI (m + 20) ≤ nI 800 by rw [q_le (by omega) (by omega)]; omega)]
    · unfold f188
      rw [t3, n_20, q_add, n_800, if_neg (show ¬ nI (m + 20) ≤ nI 800 by rw [q_le (by omega) (by omega)]; omega)]
