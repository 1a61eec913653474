/-! ===== the tape, the fault, counts, rows ===== -/
theorem RW.ch {M M' : aM} {W : cW} (h : RW M W) (k1 : ∀ a, (a = 1 ∨ (18 ≤ a ∧ a ≤ 66) ∨ (113 ≤ a ∧ a ≤ 115) ∨ a = 206) → M'.1 a = M.1 a) (k2 : M'.1 205 12 = M.1 205 12 ∧ M'.1 205 13 = M.1 205 13) (hi : iM M') (hs : sL M') (ht : rTape M') : RW M' W := by
  obtain ⟨h1, h2, h3, h4, h5, h6, h7, h8, h9⟩ := h
  refine ⟨h1, h2.of (fun a x1 x2 => k1 a (by omega)), by rw [k1 206 (by omega)]; exact h3, h4.of h1 h1.1 (fun a x1 x2 => k1 a (by omega)), h5.of (k1 113 (by omega)) (k1 114 (by omega)) (k1 115 (by omega)), hi, hs, ht, ?_⟩
  unfold rFault
  rw [k2.1, k2.2, k1 1 (by omega)]
  exact h9
theorem RW.i {M : aM} {W : cW} (h : RW M W) : iM M := h.2.2.2.2.2.1
theorem RW.t {M : aM} {W : cW} (h : RW M W) : rTape M := h.2.2.2.2.2.2.2.1
theorem RW.f {M : aM} {W : cW} (h : RW M W) : rFault M := h.2.2.2.2.2.2.2.2
theorem P_end {z : Nat} {M : aM} {W : cW} (h : RW M W) (x : Int32) : PR (f81 z x M) (f189 z x) := by
  obtain ⟨v, M1, M2, e1, e2, e3, e4, e5⟩ := c_end z x M h.t
  have r : ∀ a, a ≠ 2 → a ≠ 205 → M2.1 a = M.1 a := fun a x1 x2 => funext (fun j => e4 a j (fun q => x1 (Prod.mk.inj q).1) (fun q => x2 (Prod.mk.inj q).1))
  have r5 : ∀ j, j ≠ 5 → M2.1 205 j = M.1 205 j := fun j hj => e4 205 j (fun q => absurd (Prod.mk.inj q).1 (by decide)) (fun q => hj (Prod.mk.inj q).2)
  refine ⟨v, M1, M2, e1, e2, W, h.ch (fun a q => r a (by omega) (by omega)) ⟨r5 12 (by omega), r5 13 (by omega)⟩ (h.i.of (r 154 (by omega) (by omega)) (r 208 (by omega) (by omega)) (fun a x1 x2 => r a (by omega) (by omega)) (r 207 (by omega) (by omega))) (h.s.of (fun a x1 x2 => ⟨r a (by omega) (by omega), by rw [e5]⟩) (r 229 (by omega) (by omega)) (r 230 (by omega) (by omega)) (by rw [e5])) e3⟩
theorem P_fault {z : Nat} {M : aM} {W : cW} (h : RW M W) (x : Int32) : PR (f83 z x M) (f199 z x) := by
  obtain ⟨v, e1, e2⟩ := c_fault z x M h.f
  exact ⟨v, M, M, e1, e2, W, h⟩
theorem L7 : (7 : Int64) = (nI 7).toInt64 := by decide
/-- how many slots are there -/
def sC (M : aM) : Nat → Nat := sm (fun s => if M.1 229 s = mI then 0 else 1)
theorem sC_s (M : aM) (k : Nat) : sC M (k + 1) = sC M k + (if M.1 229 k = mI then 0 else 1) := rfl
theorem c_rows {z : Nat} (hz : 2000 ≤ z) {M : aM} (h : sL M) : f161 z M = some (some (.inl (nI (sC M 4))), M) := by
  unfold f161
  simp only [n_0]
  obtain ⟨n, e⟩ := lf0 (fun n k => f161_4 z n (nI (sC M k)) (nI k) M) 4 z (by omega) (by
    intro n k hk
    have e4 : (4 : Int32) = nI 4 := rfl
    rw [f161_4, e4, if_neg (show ¬ nI 4 ≤ nI k by rw [q_le (by omega) (by omega)]; omega), if_pos (q_inB hk (by omega)), q_cl (by omega), show 152 + (3 + 2 * k) = 155 + 2 * k by omega, sC_s]
    rcases h.cs hk with ⟨q1, q2⟩ | ⟨n', N, q⟩
    · rw [k34f q1, cb_bi, i0f, n_1, q_add, if_pos q2]
      rfl
    · have h9 : ¬ M.1 229 k = mI := by rw [q.2.2.2.1]; exact of_eq_false (q_eqm (by have := q.1; omega))
      rw [k34t q, cb_bi, i1f, n_1, q_add, q_add, if_neg h9])
  refine Eq.trans e ?_
  rw [f161_4]
  rfl
theorem m_rows {z : Nat} (hz : 2000 ≤ z) {M : aM} : f322_42 z z (nI 0) (nI 0) M = some (some (.inl (nI (sC M 4))), M) := by
  obtain ⟨n, e⟩ := lf0 (fun n k => f322_42 z n (nI (sC M k)) (nI k) M) 4 z (by omega) (by
    intro n k hk
    have e4 : (4 : Int32) = nI 4 := rfl
    rw [f322_42, e4, if_neg (show ¬ nI 4 ≤ nI k by rw [q_le (by omega) (by omega)]; omega), if_pos (q_inB hk (by omega)), q_cl (by omega), sC_s]
    by_cases q : M.1 229 k = mI
    · rw [if_neg (fun w => w q), if_pos q, n_0, n_1, q_add, q_add]
    · rw [if_pos (show ¬ M.1 229 k = -1 from q), if_neg q, n_1, q_add, q_add])
  refine Eq.trans e ?_
  rw [f322_42]
  rfl
theorem P_count {z : Nat} (hz : 2000 ≤ z) {M : aM} {W : cW} (h : RW M W) (x : Int32) : PR (f160 z x M) (f322 z x) := by
  obtain ⟨tn, t1, t2, t3, t4⟩ := h.t
  have h6 := h.c.na
  have m0 := h.m.1.1
  have m1 := h.m.1.2.1
  have m2 := h.m.1.2.2.1
  have m3 := h.m.1.2.2.2.1
  have m4 := h.m.1.2.2.2.2.1
  have m5 := h.m.1.2.2.2.2.2.1
  have m6 := h.m.1.2.2.2.2.2.2.1
  have m7 := h.m.1.2.2.2.2.2.2.2
  by_cases o : okN 8 x
  · obtain ⟨c, hc, rfl⟩ := o
    refine ⟨M.1 206 c, M, M, ?_, ?_, W, h⟩
    · rcases (show c = 0 ∨ c = 1 ∨ c = 2 ∨ c = 3 ∨ c = 4 ∨ c = 5 ∨ c = 6 ∨ c = 7 by omega) with rfl | rfl | rfl | rfl | rfl | rfl | rfl | rfl
      · rw [m0, ← h.c.i1]; rfl
      · rw [m1, ← h.c.i2]; rfl
      · rw [m2, ← h.c.i3]; rfl
      · rw [m3, ← h.c.i4]; rfl
      · rw [m4, ← h.c.i5]; rfl
      · rw [m5, ← h.c.i6]; rfl
      · rw [m6, ← h6]; rfl
      · rw [m7, ← h.c.i0]; rfl
    · unfold f322
      rw [k170t 7 L7 (by omega) (show c ≤ 7 by omega), cb_bi, i1f, if_pos (q_inB (show c < 116 by omega) (by omega)), q_cl (by omega)]
  · have ne : ∀ c, c < 8 → x ≠ nI c := fun c hc q => o ⟨c, hc, q⟩
    have e1 : ∀ k9 : Option aR, f160 z x M = (if x = 8 then some (some (.inl (M.1 2 1)), M) else if x = 9 then am_bi (f161 z M) fun v2 M1 => some (some (.inl v2), M1) else some (some (.inl (-1 : Int32)), M)) := by
      intro _
      unfold f160
      rw [if_neg (show ¬ x = (0 : Int32) from ne 0 (by omega)), if_neg (show ¬ x = (1 : Int32) from ne 1 (by omega)), if_neg (show ¬ x = (2 : Int32) from ne 2 (by omega)), if_neg (show ¬ x = (3 : Int32) from ne 3 (by omega)), if_neg (show ¬ x = (4 : Int32) from ne 4 (by omega)), if_neg (show ¬ x = (5 : Int32) from ne 5 (by omega)), if_neg (show ¬ x = (6 : Int32) from ne 6 (by omega)), if_neg (show ¬ x = (7 : Int32) from ne 7 (by omega))]
    have e2 : f322 z x M = (if ¬ x = 8 then (if x = 9 then f322_42 z z 0 0 M else some (some (.inl (-1 : Int32)), M)) else some (some (.inl (M.1 205 5)), M)) := by
      unfold f322
      rw [k170f 7 L7 (by omega) o, cb_bi, i0f]
    by_cases o8 : x = 8
    · refine ⟨nI tn, M, M, ?_, ?_, W, h⟩
      · rw [e1 none, if_pos o8, t2]
      · rw [e2, if_neg (fun q => q o8), t3]
    · by_cases o9 : x = 9
      · refine ⟨nI (sC M 4), M, M, ?_, ?_, W, h⟩
        · rw [e1 none, if_neg o8, if_pos o9, c_rows hz h.s, cb_bi]
        · rw [e2, if_pos o8, if_pos o9]
          exact m_rows hz
      · refine ⟨-1, M, M, ?_, ?_, W, h⟩
        · rw [e1 none, if_neg o8, if_neg o9]
        · rw [e2, if_pos o8, if_neg o9]
/-! row -/
theorem c_f342 {z : Nat} (hz : 2000 ≤ z) (c : Nat) (y : Int64) (M : aM) : ∃ M', f342 z c y M = some (none, M') ∧ M'.1 = M.1 ∧ (∀ a, a ≠ c → M'.2 a = M.2 a) ∧ ∀ i, i < 60 → M'.2 c i = y := by
  unfold f342
  simp only [n_0]
  obtain ⟨n, M', e, hF, hG, hI⟩ := lr0 (fun n k M' => f342_6 z n c y (nI k) (nI 60) M') 60 (fun k M' => M'.1 = M.1 ∧ (∀ a, a ≠ c → M'.2 a = M.2 a) ∧ ∀ i, i < k → M'.2 c i = y) z M (by omega) ⟨rfl, fun _ _ => rfl, fun t ht => by omega⟩ (by
    intro n k M' hk hI
    refine ⟨(M'.1, am_ul M'.2 c k y), ?_, hI.1, ?_, ?_⟩
    · rw [f342_6]
      simp (disch := omega) only [n_0, n_1, n_2, n_3, n_4, n_5, n_6, n_7, n_8, n_9, n_10, n_12, n_13, n_16, n_30, n_60, n_61, n_86, n_99, n_100, n_200, n_201, n_1023, n_65535, n_10000, n_1000000, ↓q_m1, ↓q_m2, ↓q_m3, ↓q_m4, ↓q_m5, ↓q_m6, ↓q_m7, ↓q_m8, ↓q_m1000, ↓q_m100000, q_add, q_addm, q_inB, q_cl, q_le, q_lt, q_eq, q_eqm, q_meq, q_mltT, q_ltm, q_lem, q_mleT, if_true, if_false, if_pos, if_neg, Nat.reduceAdd, Nat.reduceMul, Nat.add_zero, Nat.zero_add, Nat.one_mul, not_true_eq_false, not_false_eq_true, u_row, u_self, u_ne, cb_bi, cb_bv, cb_bl]
    · intro a ha
      show am_ul M'.2 c k y a = _
      rw [ul_row ha]
      exact hI.2.1 a ha
    · intro t ht
      show am_ul M'.2 c k y c t = y
      by_cases q : t = k
      · rw [q, ul_self]
      · rw [ul_ne q]
        exact hI.2.2 t (by omega))
  rw [e, f342_6]
  simp (disch := omega) only [n_0, n_1, n_2, n_3, n_4, n_5, n_6, n_7, n_8, n_9, n_10, n_12, n_13, n_16, n_30, n_60, n_61, n_86, n_99, n_100, n_200, n_201, n_1023, n_65535, n_10000, n_1000000, ↓q_m1, ↓q_m2, ↓q_m3, ↓q_m4, ↓q_m5, ↓q_m6, ↓q_m7, ↓q_m8, ↓q_m1000, ↓q_m100000, q_add, q_addm, q_inB, q_cl, q_le, q_lt, q_eq, q_eqm, q_meq, q_mltT, q_ltm, q_lem, q_mleT, if_true, if_false, if_pos, if_neg, Nat.reduceAdd, Nat.reduceMul, Nat.add_zero, Nat.zero_add, Nat.one_mul, not_true_eq_false, not_false_eq_true, u_row, u_self, u_ne, cb_bi, cb_bv, cb_bl]
  exact ⟨M', rfl, hF, hG, hI⟩
theorem m_f325 {z : Nat} (hz : 2000 ≤ z) {s : Nat} (hs : s < 4) (M : aM) : ∃ M', f325_52 z z (nI s) (nI 0) M = some (some (.inl (nI 0)), M') ∧ M'.1 = M.1 ∧ (∀ a, a ≠ 231 → M'.2 a = M.2 a) ∧ (∀ i, i < 60 → M'.2 231 (60 * s + i) = 0) ∧ ∀ j, ¬ (60 * s ≤ j ∧ j < 60 * s + 60) → M'.2 231 j = M.2 231 j := by
  obtain ⟨n, M', e, hF, hG, hI, hJ⟩ := lr0 (fun n k M' => f325_52 z n (nI s) (nI k) M') 60 (fun k M' => M'.1 = M.1 ∧ (∀ a, a ≠ 231 → M'.2 a = M.2 a) ∧ (∀ i, i < k → M'.2 231 (60 * s + i) = 0) ∧ ∀ j, ¬ (60 * s ≤ j ∧ j < 60 * s + 60) → M'.2 231 j = M.2 231 j) z M (by omega) ⟨rfl, fun _ _ => rfl, fun t ht => by omega, fun _ _ => rfl⟩ (by
    intro n k M' hk hI
    refine ⟨(M'.1, am_ul M'.2 231 (60 * s + k) 0), ?_, hI.1, ?_, ?_, ?_⟩
    · rw [f325_52]
      simp (disch := omega) only [n_0, n_1, n_2, n_3, n_4, n_5, n_6, n_7, n_8, n_9, n_10, n_12, n_13, n_16, n_30, n_60, n_61, n_86, n_99, n_100, n_200, n_201, n_1023, n_65535, n_10000, n_1000000, ↓q_m1, ↓q_m2, ↓q_m3, ↓q_m4, ↓q_m5, ↓q_m6, ↓q_m7, ↓q_m8, ↓q_m1000, ↓q_m100000, q_add, q_addm, q_inB, q_cl, q_le, q_lt, q_eq, q_eqm, q_meq, q_mltT, q_ltm, q_lem, q_mleT, if_true, if_false, if_pos, if_neg, Nat.reduceAdd, Nat.reduceMul, Nat.add_zero, Nat.zero_add, Nat.one_mul, not_true_eq_false, not_false_eq_true, u_row, u_self, u_ne, cb_bi, cb_bv, cb_bl, q_mul]
    · intro a ha
      show am_ul M'.2 231 (60 * s + k) 0 a = _
      rw [ul_row ha]
      exact hI.2.1 a ha
    · intro t ht
      show am_ul M'.2 231 (60 * s + k) 0 231 (60 * s + t) = 0
      by_cases q : t = k
      · rw [q, ul_self]
      · rw [ul_ne (by omega)]
        exact hI.2.2.1 t (by omega)
    · intro j hj
      show am_ul M'.2 231 (60 * s + k) 0 231 j = _
      rw [ul_ne (by omega)]
      exact hI.2.2.2 j hj)
  rw [e, f325_52]
  simp (disch := omega) only [n_0, n_1, n_2, n_3, n_4, n_5, n_6, n_7, n_8, n_9, n_10, n_12, n_13, n_16, n_30, n_60, n_61, n_86, n_99, n_100, n_200, n_201, n_1023, n_65535, n_10000, n_1000000, ↓q_m1, ↓q_m2, ↓q_m3, ↓q_m4, ↓q_m5, ↓q_m6, ↓q_m7, ↓q_m8, ↓q_m1000, ↓q_m100000, q_add, q_addm, q_inB, q_cl, q_le, q_lt, q_eq, q_eqm, q_meq, q_mltT, q_ltm, q_lem, q_mleT, if_true, if_false, if_pos, if_neg, Nat.reduceAdd, Nat.reduceMul, Nat.add_zero, Nat.zero_add, Nat.one_mul, not_true_eq_false, not_false_eq_true, u_row, u_self, u_ne, cb_bi, cb_bv, cb_bl]
  exact ⟨M', rfl, hF, hG, hI, hJ⟩
theorem okW4 {x : Int32} (h : ¬ okN 4 x) : ¬ okW 0 3 x := fun q => by
  obtain ⟨n, _, hn, e⟩ := q
  exact h ⟨n, by omega, e⟩
theorem k3t {z : Nat} {M : aM} {w : Nat} (h : w < 4) : f165 z (nI w) (0 : Int32) (3 : Int32) M = some (some (.inl (nI 1)), M) := k165t (lo := 0) (hi := 3) (by omega) (by omega) (by omega)
theorem k3f {z : Nat} {M : aM} {x : Int32} (h : ¬ okN 4 x) : f165 z x (0 : Int32) (3 : Int32) M = some (some (.inl (nI 0)), M) := k165f (lo := 0) (hi := 3) (okW4 h) (by omega) (by omega)
theorem P_row {z : Nat} (hz : 2000 ≤ z) {M : aM} {W : cW} (h : RW M W) (x1 x2 x3 : Int32) : PR (f166 z x1 x2 x3 M) (f325 z x1 x2 x3) := by
  by_cases o1 : okN 4 x1
  · obtain ⟨s, hs, rfl⟩ := o1
    by_cases o2 : okN 4 x2
    · obtain ⟨w, hw, rfl⟩ := o2
      by_cases o3 : x3 ≤ 60
      · by_cases o4 : 0 ≤ x3
        · obtain ⟨n, hn, rfl⟩ := nI_of (Int32.not_lt.mpr o4)
          have hn60 : n ≤ 60 := by rw [n_60, q_le hn (by omega)] at o3; exact o3
          obtain ⟨M1, a1, a2, a3, a4⟩ := c_f342 hz (155 + 2 * s + 1) 0 ((am_u (am_u M.1 (155 + 2 * s) 0 (nI w)) (155 + 2 * s) 1 (nI n), M.2) : aM)
          obtain ⟨M2, b1, b2, b3, b4, b5⟩ := m_f325 hz hs ((am_u (am_u M1.1 229 s (nI n)) 230 s (nI w), M1.2) : aM)
          have e2 : f325 z (nI s) (nI w) (nI n) M1 = some (some (.inl (nI 0)), M2) := by
            unfold f325
            rw [k323t hs, cb_bi, i1f, k170t 3 L3 (by omega) (show w ≤ 3 by omega), cb_bi, i1f, if_pos o3, if_pos o4, if_pos (q_inB hs (by omega)), if_pos (q_inB hs (by omega)), q_cl (by omega), n_0]
            exact b1
          have r : ∀ a, a ≠ 155 + 2 * s → a ≠ 229 → a ≠ 230 → M2.1 a = M.1 a := fun a x1 x2 x3 => by
            rw [b2]
            show am_u (am_u M1.1 229 s (nI n)) 230 s (nI w) a = _
            rw [u_row x3, u_row x2, a2]
            show am_u (am_u M.1 (155 + 2 * s) 0 (nI w)) (155 + 2 * s) 1 (nI n) a = _
            rw [u_row x1, u_row x1]
          refine ⟨nI 0, M1, M2, ?_, e2, W, h.ch (fun a q => r a (by omega) (by omega) (by omega)) (by rw [r 205 (by omega) (by omega) (by omega)]; exact ⟨rfl, rfl⟩) (h.i.of (r 154 (by omega) (by omega) (by omega)) (r 208 (by omega) (by omega) (by omega)) (fun a x1 x2 => r a (by omega) (by omega) (by omega)) (r 207 (by omega) (by omega) (by omega))) ?_ ?_⟩
          · unfold f166 f35
            rw [k164t hs, cb_bi, i1f, k3t hw, cb_bi, i1f, if_pos o3, if_pos o4, if_pos (q_inB hs (by omega)), q_cl (by omega), show 152 + (3 + 2 * s) = 155 + 2 * s by omega]
            dsimp only
            rw [a1, cb_bv, cb_bv]
            rfl
          · intro t ht
            have f230 : ∀ t, M2.1 230 t = if t = s then nI w else M.1 230 t := fun t => by
              rw [b2]
              show am_u (am_u M1.1 229 s (nI n)) 230 s (nI w) 230 t = _
              rw [u_at, u_row (by omega), a2]
              dsimp only
              rw [show am_u (am_u M.1 (155 + 2 * s) 0 (nI w)) (155 + 2 * s) 1 (nI n) 230 = M.1 230 by rw [u_row (by omega), u_row (by omega)]]
            have f229 : ∀ t, M2.1 229 t = if t = s then nI n else M.1 229 t := fun t => by
              rw [b2]
              show am_u (am_u M1.1 229 s (nI n)) 230 s (nI w) 229 t = _
              rw [u_row (by omega), u_at, a2]
              dsimp only
              rw [show am_u (am_u M.1 (155 + 2 * s) 0 (nI w)) (155 + 2 * s) 1 (nI n) 229 = M.1 229 by rw [u_row (by omega), u_row (by omega)]]
            rw [f229, f230]
            by_cases e : t = s
            · rw [e, if_pos rfl, if_pos rfl]
              refine .inr ⟨w, n, by omega, hn60, ?_, ?_, rfl, rfl, fun i hi => ?_⟩
              · rw [b2]
                show am_u (am_u M1.1 229 s (nI n)) 230 s (nI w) (155 + 2 * s) 0 = _
                rw [u_row (by omega), u_row (by omega), a2]
                show am_u (am_u M.1 (155 + 2 * s) 0 (nI w)) (155 + 2 * s) 1 (nI n) (155 + 2 * s) 0 = _
                rw [u_ne (by omega), u_self]
              · rw [b2]
                show am_u (am_u M1.1 229 s (nI n)) 230 s (nI w) (155 + 2 * s) 1 = _
                rw [u_row (by omega), u_row (by omega), a2]
                show am_u (am_u M.1 (155 + 2 * s) 0 (nI w)) (155 + 2 * s) 1 (nI n) (155 + 2 * s) 1 = _
                rw [u_self]
              · rw [b4 i hi, b3 _ (by omega), show 156 + 2 * s = 155 + 2 * s + 1 by omega]
                exact a4 i hi
            · rw [if_neg e, if_neg e, r (155 + 2 * t) (by omega) (by omega) (by omega)]
              have e1 : M2.2 (156 + 2 * t) = M.2 (156 + 2 * t) := by rw [b3 _ (by omega)]; exact a3 _ (by omega)
              rcases h.s t ht with q | ⟨w', n', q1, q2, q3, q4, q5, q6, q7⟩
              · exact .inl q
              · refine .inr ⟨w', n', q1, q2, q3, q4, q5, q6, fun i hi => ?_⟩
                rw [e1, b5 _ (by omega), q7 i hi]
                show _ = M1.2 231 _
                rw [a3 231 (by omega)]
          · obtain ⟨k, k1, k2, k3, k4⟩ := h.t
            refine ⟨k, k1, ?_, ?_, fun i hi => ?_⟩
            · rw [r 2 (by omega) (by omega) (by omega)]; exact k2
            · rw [r 205 (by omega) (by omega) (by omega)]; exact k3
            · rw [r 3 (by omega) (by omega) (by omega), r 209 (by omega) (by omega) (by omega)]; exact k4 i hi
        · refine PR.r (M := M) (v := -3) (M1 := M) ?_ h ⟨M, ?_, kR.id0⟩
          · unfold f166
            rw [k164t hs, cb_bi, i1f, k3t hw, cb_bi, i1f, if_pos o3, if_neg o4]
          · unfold f325
            rw [k323t hs, cb_bi, i1f, k170t 3 L3 (by omega) (show w ≤ 3 by omega), cb_bi, i1f, if_pos o3, if_neg o4]
      · refine PR.r (M := M) (v := -2) (M1 := M) ?_ h ⟨M, ?_, kR.id0⟩
        · unfold f166
          rw [k164t hs, cb_bi, i1f, k3t hw, cb_bi, i1f, if_neg o3]
        · unfold f325
          rw [k323t hs, cb_bi, i1f, k170t 3 L3 (by omega) (show w ≤ 3 by omega), cb_bi, i1f, if_neg o3]
    · refine PR.r (M := M) (v := -2) (M1 := M) ?_ h ⟨M, ?_, kR.id0⟩
      · unfold f166
        rw [k164t hs, cb_bi, i1f, k3f o2, cb_bi, i0f]
      · unfold f325
        rw [k323t hs, cb_bi, i1f, k170f 3 L3 (by omega) o2, cb_bi, i0f]
  · refine PR.r (M := M) (v := -2) (M1 := M) ?_ h ⟨M, ?_, kR.id0⟩
    · unfold f166
      rw [k164f o1, cb_bi, i0f]
    · unfold f325
      rw [k323f o1, cb_bi, i0f]
