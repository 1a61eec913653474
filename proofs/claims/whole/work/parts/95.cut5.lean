/-! ===== the cut: both sides ===== -/
theorem zR.m36 {M M' : aM} {W : cW} {Y : cY} {m : Nat} (h : zR M W Y m) (k : m36 M M') : zR M' W Y m := h.of (fun a x1 x2 => k.1 a (by omega) (by omega))
theorem m36.fx {M M' : aM} (h : Fx (fun a => a = 225) M M') : m36 M M' := ⟨fun a _ q => h.2 a q, fun j _ => by rw [h.2 205 (by omega)], h.1⟩
theorem cut_j {z : Nat} (hz : 2000 ≤ z) {W : cW} (hW : wf W) {Y : cY} {c r y m0 : Nat} (hc : c < 8) (hr : r < 67) (hb : ∀ t, Y y t ≤ 1000) (hm0 : m0 ≤ 13) (hy : y < m0) : ∀ (m k T : Nat), k + m = 16 → T < 65536 → jP W c T = jQ W c T + k → ∃ R, (∀ (n : Nat) (M : aM), m < n → rC M 18 W → (∀ t, t < W 0 4 → M.1 r t = nI (Y y t)) → ∃ M', f68_9 z n 67 18 r (nI c) (nI T) (nI k) (nI k) M = some (some (.inl (nI R)), M') ∧ Fx (fun a => a = 69) M M') ∧ (∀ (n : Nat) (N : aM), m < n → rM (N.1 206) W → zR N W Y m0 → N.1 205 36 = nI T → ∃ N', f278_26 z n (nI c) (nI y) (nI k) N = some (some (.inl (nI R)), N') ∧ m36 N N') := by
  intro m
  induction m with
  | zero =>
    intro k T hk hT hp
    have hk' : k = 16 := by omega
    subst hk'
    refine ⟨16, fun n M hn hC hs => ?_, fun n N hn hR hZ h36 => ?_⟩
    · obtain ⟨n, rfl⟩ : ∃ n', n = n' + 1 := ⟨n - 1, by omega⟩
      refine ⟨M, ?_, Fx.id0⟩
      rw [f68_9, if_pos (show (16 : Int32) ≤ nI 16 by decide)]
    · obtain ⟨n, rfl⟩ : ∃ n', n = n' + 1 := ⟨n - 1, by omega⟩
      obtain ⟨K, hK⟩ := jend hW (s := Y y) (T := T) hc
      obtain ⟨N', a1, a2, a3⟩ := m_find hz hW hR hc hT h36 hK
      rcases jres hW hc hK with ⟨q1, _⟩ | ⟨_, _, l, w, w1, w2, _⟩
      · rw [if_pos q1] at a3
        refine ⟨N', ?_, m36.fx a1⟩
        rw [f278_26, g229 hz hR hW hZ hm0 hy hb, cb_bi, a3, cb_bi, i0f]
      · exfalso
        have := jnet0 hW hc w1 w2
        have h1 := jP_le W c (jwk W T w l 8 T)
        have hN : W 0 4 ≤ 16 := hW.2.2.2.2.1
        omega
  | succ m ih =>
    intro k T hk hT hp
    obtain ⟨K, hK⟩ := jend hW (s := Y y) (T := T) hc
    rcases jres hW hc hK with ⟨q1, q2⟩ | ⟨q1, q2, l, w, w1, w2, w3, w4⟩
    · refine ⟨k, fun n M hn hC hs => ?_, fun n N hn hR hZ h36 => ?_⟩
      · obtain ⟨n, rfl⟩ : ∃ n', n = n' + 1 := ⟨n - 1, by omega⟩
        obtain ⟨M', b1, b2, b3⟩ := c_reach hz hW hC hr hs hb hT hc
        rw [if_pos q2] at b1
        refine ⟨M', ?_, b2⟩
        rw [f68_9, if_neg (show ¬ (16 : Int32) ≤ nI k by rw [n_16, q_le (by omega) (by omega)]; omega), b1, cb_bi, i0f]
      · obtain ⟨n, rfl⟩ : ∃ n', n = n' + 1 := ⟨n - 1, by omega⟩
        obtain ⟨N', a1, a2, a3⟩ := m_find hz hW hR hc hT h36 hK
        rw [if_pos q1] at a3
        refine ⟨N', ?_, m36.fx a1⟩
        rw [f278_26, g229 hz hR hW hZ hm0 hy hb, cb_bi, a3, cb_bi, i0f]
    · have hT' := jwk_lt hW l 8 T w1 w2 hT
      have hn0 := jnet0 hW hc w1 w2
      have hlen := w1.len
      have hwb : ∀ j, j ∈ l → j ≠ c → w j < 16 := by
        intro j hj hjc
        have hN : W 0 4 ≤ 16 := hW.2.2.2.2.1
        have aux : ∀ l, jO W T c w l → j ∈ l → w j < W 0 4 := by
          intro l
          induction l with
          | nil => intro h _; exact h.elim
          | cons i l ih =>
            intro h hj
            by_cases el : l = []
            · subst el
              have e1 : j = i := by simpa using hj
              exact absurd (e1.trans h.hd) hjc
            · obtain ⟨h1, h2, h3, h4, _⟩ := h.tl el
              rcases List.mem_cons.mp hj with q | q
              · rw [q]; exact h4
              · exact ih h1 q
        have := aux l w1 hj
        omega
      obtain ⟨R, i1, i2⟩ := ih (k + 1) (jwk W T w l 8 T) (by omega) hT' (by omega)
      refine ⟨R, fun n M hn hC hs => ?_, fun n N hn hR hZ h36 => ?_⟩
      · obtain ⟨n, rfl⟩ : ∃ n', n = n' + 1 := ⟨n - 1, by omega⟩
        obtain ⟨M', b1, b2, b3⟩ := c_reach hz hW hC hr hs hb hT hc
        rw [if_neg q2] at b1
        have hC' := hC.fx b2 (fun a q => by omega)
        have hw := c_walk (z := z) hW hC' hc hT l 8 T 0 z w1 (fun j hj hjc => by rw [b3 j (w1.b j hj).1, w4 j hj, if_pos (hwb j hj hjc)]) w2 hT (by omega) (by omega)
        obtain ⟨M'', d1, d2⟩ := i1 n M' (by omega) hC' (fun t ht => by rw [b2.2 r (by omega)]; exact hs t ht)
        refine ⟨M'', ?_, b2.trans d2⟩
        rw [f68_9, if_neg (show ¬ (16 : Int32) ≤ nI k by rw [n_16, q_le (by omega) (by omega)]; omega), b1, cb_bi, i1f]
        unfold f70
        rw [n_8, n_0, hw, cb_bi, n_1, q_add]
        exact d1
      · obtain ⟨n, rfl⟩ : ∃ n', n = n' + 1 := ⟨n - 1, by omega⟩
        obtain ⟨N', a1, a2, a3⟩ := m_find hz hW hR hc hT h36 hK
        rw [if_neg q1] at a3
        have hR' : rM (N'.1 206) W := by rw [a1.2 206 (by omega)]; exact hR
        obtain ⟨N2, d1, d2, d3⟩ := m_walk (z := z) hW hc l 8 T z N' w1 hR' (fun j hj hjc => by rw [a2 j (w1.b j hj).1, w3 j hj, if_neg (by have := hwb j hj hjc; omega)]) w2 (by rw [a1.2 205 (by omega)]; exact h36) (by omega)
        have k2 : m36 N N2 := (m36.fx a1).trans d2
        obtain ⟨N3, e1, e2⟩ := i2 n N2 (by omega) (by rw [k2.1 206 (by omega) (by omega)]; exact hR) (hZ.m36 k2) d3
        refine ⟨N3, ?_, k2.trans e2⟩
        rw [f278_26, g229 hz hR hW hZ hm0 hy hb, cb_bi, a3, d1, cb_bi, i1f, n_1, q_add]
        exact e1
theorem P_cut {z : Nat} (hz : 2000 ≤ z) {M : aM} {W : cW} (h : RW M W) (x1 x2 : Int32) : PR (f126 z x1 x2 M) (f278 z x1 x2) := by
  have hN0 := h.n0
  have hN3 := h.n3
  by_cases o1 : okN (W 0 3) x1
  · obtain ⟨c, hc, rfl⟩ := o1
    by_cases o2 : okY W x2
    · obtain ⟨h7, y, hy, rfl⟩ := o2
      have hy' : y ≤ W 0 0 := by omega
      have p0 : jP W c 0 = 0 := by
        unfold jP
        rw [sm_cong (g := fun _ => 0) _ (fun k _ => if_neg (fun q => by have := q.1; rw [bt_tb] at this; simp at this)), sm_zero]
      have q0 : jQ W c 0 = 0 := by
        unfold jQ
        rw [sm_cong (g := fun _ => 0) _ (fun k _ => if_neg (fun q => by have := q.1; rw [bt_tb] at this; simp at this)), sm_zero]
      obtain ⟨R, i1, i2⟩ := cut_j hz h.w (Y := tY W) (c := c) (r := 33 + (1 + y)) (y := y) (m0 := W 0 0 + 1) (by omega) (by omega) (fun t => h.rb hy' t) (by omega) (by omega) 16 0 0 rfl (by omega) (by rw [p0, q0])
      obtain ⟨M1, a1, a2⟩ := i1 z M (by omega) h.c (fun t ht => h.row hy' ht)
      refine PR.q (M1 := M1) (v := nI R) h ?_ (kR.fx a2 (fun a q => by unfold Sc; omega)) ?_
      · unfold f126 f68
        rw [k8t h.c h.w hc, cb_bi, i1f, k11t h.c h.w h7 hy', cb_bi, i1n, if_pos (q_inB (show y < 13 by omega) (by omega)), q_cl (by omega), Nat.one_mul, n_0, a1, cb_bi]
      · intro N hN
        obtain ⟨N', b1, b2, b3, b4⟩ := m_Yt hz hN h7 hy'
        have k0 : m36 N' ((am_u N'.1 205 36 (nI 0), N'.2) : aM) := ⟨fun a q _ => u_row q, fun j q => u_ne q, rfl⟩
        obtain ⟨N2, d1, d2⟩ := i2 z ((am_u N'.1 205 36 (nI 0), N'.2) : aM) (by omega) (by rw [k0.1 206 (by omega) (by omega)]; exact b3) (b4.m36 k0) (by show am_u N'.1 205 36 (nI 0) 205 36 = _; rw [u_self])
        refine ⟨N2, ?_, b2.trans (k0.trans d2).kR⟩
        unfold f278
        rw [b1, cb_bi, i1f, k182t b3 h.w hc, cb_bi, i1n, n_0]
        exact d1
    · refine PR.q (M1 := M) (v := -2) h ?_ kR.id0 ?_
      · unfold f126
        rw [k8t h.c h.w hc, cb_bi, i1f, k11f h.c h.w o2, cb_bi, i0n]
      · intro N hN
        obtain ⟨N', b1, b2⟩ := m_Yf hz hN o2
        refine ⟨N', ?_, b2⟩
        unfold f278
        rw [b1, cb_bi, i0f]
  · refine PR.q (M1 := M) (v := -2) h ?_ kR.id0 ?_
    · unfold f126
      rw [k8f h.c h.w o1, cb_bi, i0f]
    · intro N hN
      by_cases o2 : okY W x2
      · obtain ⟨h7, y, hy, rfl⟩ := o2
        obtain ⟨N', b1, b2, b3, b4⟩ := m_Yt hz hN h7 (show y ≤ W 0 0 by omega)
        refine ⟨N', ?_, b2⟩
        unfold f278
        rw [b1, cb_bi, i1f, k182f b3 h.w o1, cb_bi, i0n]
      · obtain ⟨N', b1, b2⟩ := m_Yf hz hN o2
        refine ⟨N', ?_, b2⟩
        unfold f278
        rw [b1, cb_bi, i0f]
