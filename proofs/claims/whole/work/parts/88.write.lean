/-! ===== write and paste ===== -/
theorem RW.sl {M M' : aM} {W : cW} (h : RW M W) (h1 : M'.1 = M.1) (hs : sL M') : RW M' W := by
  refine h.ch (fun a _ => by rw [h1]) (by rw [h1]; exact ⟨rfl, rfl⟩) (h.i.of (by rw [h1]) (by rw [h1]) (fun a _ _ => by rw [h1]) (by rw [h1])) hs ?_
  unfold rTape
  rw [h1]
  exact h.t
theorem sL.wr {M M' : aM} {s : Nat} (h : sL M) (h1 : M'.1 = M.1) (h2 : ∀ t, t < 4 → t ≠ s → ∀ i, i < 60 → M'.2 (156 + 2 * t) i = M.2 (156 + 2 * t) i ∧ M'.2 231 (60 * t + i) = M.2 231 (60 * t + i)) (h3 : ∀ i, i < 60 → M'.2 (156 + 2 * s) i = M'.2 231 (60 * s + i)) : sL M' := by
  intro t ht
  rw [h1]
  rcases h t ht with q | ⟨w', n', q1, q2, q3, q4, q5, q6, q7⟩
  · exact .inl q
  · refine .inr ⟨w', n', q1, q2, q3, q4, q5, q6, fun i hi => ?_⟩
    by_cases e : t = s
    · rw [e]; exact h3 i hi
    · rw [(h2 t ht e i hi).1, (h2 t ht e i hi).2]; exact q7 i hi
theorem nr8 (y : Int64) : Int32.toInt64 ((Int64.toInt32 y).toInt8.toInt32) = (y <<< 56) >>> 56 := by
  apply Int64.toBitVec_inj.mp
  rw [Int64.toBitVec_shiftRight, Int64.toBitVec_shiftLeft, show (56 : Int64).toBitVec.smod 64 = 56#64 by decide, Int32.toBitVec_toInt64, Int8.toBitVec_toInt32, Int32.toBitVec_toInt8, Int64.toBitVec_toInt32]
  rw [BitVec.sshiftRight_eq', BitVec.shiftLeft_eq', show (56#64).toNat = 56 by decide]
  apply BitVec.eq_of_getLsbD_eq
  intro i hi
  simp only [BitVec.getLsbD_signExtend, BitVec.msb_eq_getLsbD_last, BitVec.getLsbD_sshiftRight, BitVec.getLsbD_shiftLeft]
  by_cases h : i < 8
  · simp [hi, h, show i < 8 + 56 by omega, show 56 + i < 64 by omega, show i < 32 by omega, show i < 64 by omega, show ¬ (56 + i < 56) by omega, show 56 + i - 56 = i by omega]
  · simp [hi, h, show ¬ (56 + i < 64) by omega, show ¬ 64 ≤ i by omega]
    intro h2
    simp [h2]
theorem nr16 (y : Int64) : Int32.toInt64 ((Int64.toInt32 y).toInt16.toInt32) = (y <<< 48) >>> 48 := by
  apply Int64.toBitVec_inj.mp
  rw [Int64.toBitVec_shiftRight, Int64.toBitVec_shiftLeft, show (48 : Int64).toBitVec.smod 64 = 48#64 by decide, Int32.toBitVec_toInt64, Int16.toBitVec_toInt32, Int32.toBitVec_toInt16, Int64.toBitVec_toInt32]
  rw [BitVec.sshiftRight_eq', BitVec.shiftLeft_eq', show (48#64).toNat = 48 by decide]
  apply BitVec.eq_of_getLsbD_eq
  intro i hi
  simp only [BitVec.getLsbD_signExtend, BitVec.msb_eq_getLsbD_last, BitVec.getLsbD_sshiftRight, BitVec.getLsbD_shiftLeft]
  by_cases h : i < 16
  · simp [hi, h, show i < 8 + 56 by omega, show 48 + i < 64 by omega, show i < 32 by omega, show i < 64 by omega, show ¬ (48 + i < 48) by omega, show 48 + i - 48 = i by omega]
  · simp [hi, h, show ¬ (48 + i < 64) by omega, show ¬ 64 ≤ i by omega]
    intro h2
    simp [h2]
theorem nr32 (y : Int64) : Int32.toInt64 (Int64.toInt32 y) = (y <<< 32) >>> 32 := by
  apply Int64.toBitVec_inj.mp
  rw [Int64.toBitVec_shiftRight, Int64.toBitVec_shiftLeft, show (32 : Int64).toBitVec.smod 64 = 32#64 by decide, Int32.toBitVec_toInt64, Int64.toBitVec_toInt32]
  rw [BitVec.sshiftRight_eq', BitVec.shiftLeft_eq', show (32#64).toNat = 32 by decide]
  apply BitVec.eq_of_getLsbD_eq
  intro i hi
  simp only [BitVec.getLsbD_signExtend, BitVec.msb_eq_getLsbD_last, BitVec.getLsbD_sshiftRight, BitVec.getLsbD_shiftLeft]
  by_cases h : i < 32
  · simp [hi, h, show i < 8 + 56 by omega, show 32 + i < 64 by omega, show i < 32 by omega, show i < 64 by omega, show ¬ (32 + i < 32) by omega, show 32 + i - 32 = i by omega]
  · simp [hi, h, show ¬ (32 + i < 64) by omega]
theorem nr64 (y : Int64) : y = (y <<< 0) >>> 0 := by
  apply Int64.toBitVec_inj.mp
  rw [Int64.toBitVec_shiftRight, Int64.toBitVec_shiftLeft, show (0 : Int64).toBitVec.smod 64 = 0#64 by decide]
  simp
theorem nrw {z : Nat} {M : aM} {c w : Nat} (hw : w ≤ 3) (h : M.1 c 0 = nI w) (y : Int64) : ∃ v, f36 z c y M = some (some (.inr (.inl v)), M) ∧ ∀ M', f324 z y (nI w) M' = some (some (.inr (.inl v)), M') := by
  rcases (show w = 0 ∨ w = 1 ∨ w = 2 ∨ w = 3 by omega) with rfl | rfl | rfl | rfl
  · refine ⟨_, ?_, fun M' => rfl⟩
    unfold f36
    rw [h, if_pos (by decide), nr8]
    rfl
  · refine ⟨_, ?_, fun M' => rfl⟩
    unfold f36
    rw [h, if_neg (by decide), if_pos (by decide), nr16]
    rfl
  · refine ⟨_, ?_, fun M' => rfl⟩
    unfold f36
    rw [h, if_neg (by decide), if_neg (by decide), if_pos (by decide), nr32]
    rfl
  · refine ⟨_, ?_, fun M' => rfl⟩
    unfold f36
    rw [h, if_neg (by decide), if_neg (by decide), if_neg (by decide)]
    exact congrArg (fun v => some (some (Sum.inr (Sum.inl v)), M)) (nr64 y)
theorem le_s1 {i n : Nat} (hi : i < 2147483648) (hn : n ≤ 60) : nI i ≤ nI n - 1 ↔ i < n := by
  rw [Int32.le_iff_toInt_le, n_1, q_subI (by omega) (by omega)]
  have e : (nI i).toInt = (i : Int) := by
    have := q_subI hi (show 0 < 2147483648 by omega)
    rw [q_sub (Nat.zero_le i)] at this
    simpa using this
  rw [e]
  omega
theorem g170n {z : Nat} {M : aM} {i n : Nat} (hn : n ≤ 60) (hi : i < n) : f170 z (nI i).toInt64 0 (nI n - 1).toInt64 M = some (some (.inl (nI 1)), M) := g170t z M ⟨(cb_w0 _).mpr (by rw [n_0, q_le (by omega) (by omega)]; omega), (cb_wle _ _).mpr ((le_s1 (by omega) hn).mpr hi)⟩
theorem g170o {z : Nat} {M : aM} {x : Int32} {n : Nat} (hn : n ≤ 60) (hx : ¬ okN n x) : f170 z x.toInt64 0 (nI n - 1).toInt64 M = some (some (.inl (nI 0)), M) := g170f z M (fun q => by
  obtain ⟨i, hi, rfl⟩ := nI_of (Int32.not_lt.mpr ((cb_w0 _).mp q.1))
  exact hx ⟨i, (le_s1 hi hn).mp ((cb_wle _ _).mp q.2), rfl⟩)
theorem P_write {z : Nat} {M : aM} {W : cW} (h : RW M W) (x1 x2 : Int32) (y : Int64) : PR (f167 z x1 x2 y M) (f326 z x1 x2 y) := by
  by_cases o1 : okN 4 x1
  · obtain ⟨s, hs, rfl⟩ := o1
    have es : 152 + (3 + 2 * s) = 155 + 2 * s := by omega
    rcases h.s s hs with ⟨q1, q2⟩ | ⟨w, n, q1, q2, q3, q4, q5, q6, q7⟩
    · refine PR.r (M := M) (v := -6) (M1 := M) ?_ h ⟨M, ?_, kR.id0⟩
      · unfold f167
        rw [k164t hs, cb_bi, i1n, if_pos (q_inB hs (by omega)), q_cl (by omega), es, k34f q1, cb_bi, i0n]
      · unfold f326
        rw [k323t hs, cb_bi, i1n, if_pos (q_inB hs (by omega)), q_cl (by omega), q2, if_neg (show ¬ ¬ mI = -1 from fun q => q rfl)]
    · have hd : sD M s n (M.2 (156 + 2 * s)) := ⟨q2, ⟨w, q1, q3⟩, q4, q5, fun i hi => ⟨rfl, (q7 i hi).symm⟩⟩
      have h9 : ¬ nI n = -1 := of_eq_false (q_eqm (by omega))
      by_cases o2 : okN n x2
      · obtain ⟨i, hi, rfl⟩ := o2
        obtain ⟨v, v1, v2⟩ := nrw (z := z) q1 q3 y
        refine ⟨nI 0, (M.1, am_ul M.2 (155 + 2 * s + 1) i v), (M.1, am_ul (am_ul M.2 (155 + 2 * s + 1) i v) 231 (60 * s + i) v), ?_, ?_, W, h.sl rfl (h.s.wr (s := s) rfl ?_ ?_)⟩
        · unfold f167
          rw [k164t hs, cb_bi, i1n, if_pos (q_inB hs (by omega)), q_cl (by omega), es, k34t hd, cb_bi, i1n, if_neg (show ¬ nI i < 0 by rw [n_0, q_lt (by omega) (by omega)]; omega), q4, if_pos (show nI i < nI n by rw [q_lt (by omega) (by omega)]; omega), v1, cb_bl, if_pos (q_inB (show i < 60 by omega) (by omega)), q_cl (by omega)]
          rfl
        · unfold f326
          rw [k323t hs, cb_bi, i1n, if_pos (q_inB hs (by omega)), q_cl (by omega)]
          dsimp only
          rw [q5, if_pos h9, if_pos (q_inB hs (by omega)), g170n q2 hi, cb_bi, i1n, if_pos (q_inB hs (by omega))]
          dsimp only
          rw [q6, v2, cb_bl, n_60, q_mul, q_add, if_pos (q_inB (show 60 * s + i < 240 by omega) (by omega)), q_cl (by omega)]
          rfl
        · intro t ht hts j hj
          dsimp only
          rw [ul_row (by omega), ul_row (by omega), ul_ne (by omega), ul_row (by omega)]
          exact ⟨rfl, rfl⟩
        · intro j hj
          dsimp only
          rw [ul_row (by omega), show 156 + 2 * s = 155 + 2 * s + 1 by omega]
          by_cases e : j = i
          · rw [e, ul_self, ul_self]
          · rw [ul_ne e, ul_ne (by omega), ul_row (by omega), show 155 + 2 * s + 1 = 156 + 2 * s by omega]
            exact q7 j hj
      · refine PR.r (M := M) (v := -7) (M1 := M) ?_ h ⟨M, ?_, kR.id0⟩
        · unfold f167
          rw [k164t hs, cb_bi, i1n, if_pos (q_inB hs (by omega)), q_cl (by omega), es, k34t hd, cb_bi, i1n]
          by_cases o : x2 < 0
          · rw [if_pos o]
          · obtain ⟨i, hi, rfl⟩ := nI_of o
            rw [if_neg o, q4, if_neg (show ¬ nI i < nI n by rw [q_lt (by omega) (by omega)]; exact fun q => o2 ⟨i, q, rfl⟩)]
        · unfold f326
          rw [k323t hs, cb_bi, i1n, if_pos (q_inB hs (by omega)), q_cl (by omega), q5, if_pos h9, if_pos (q_inB hs (by omega)), g170o q2 o2, cb_bi, i0n]
  · refine PR.r (M := M) (v := -2) (M1 := M) ?_ h ⟨M, ?_, kR.id0⟩
    · unfold f167
      rw [k164f o1, cb_bi, i0n]
    · unfold f326
      rw [k323f o1, cb_bi, i0n]
/-! paste -/
def okP (n : Nat) (x l : Int32) : Prop := ∃ i k, i < 2147483648 ∧ k < 2147483648 ∧ x = nI i ∧ l = nI k ∧ i + k ≤ n
theorem sub_lt {n i k : Nat} (hn : n ≤ 60) (hi : i < 2147483648) (hk : k < 2147483648) : nI n - nI i < nI k ↔ n < i + k := by
  rw [Int32.lt_iff_toInt_lt, q_subI (by omega) hi]
  have e : (nI k).toInt = (k : Int) := by
    have := q_subI hk (show 0 < 2147483648 by omega)
    rw [q_sub (Nat.zero_le k)] at this
    simpa using this
  rw [e]
  omega
theorem k37t {z c : Nat} {M : aM} {n i k : Nat} (hn : n ≤ 60) (h : M.1 c 1 = nI n) (hik : i + k ≤ n) : f37 z c (nI i) (nI k) M = some (some (.inl (nI 1)), M) := by
  unfold f37
  rw [h, if_neg (show ¬ nI i < 0 by rw [n_0, q_lt (by omega) (by omega)]; omega), if_neg (show ¬ nI k < 0 by rw [n_0, q_lt (by omega) (by omega)]; omega), if_neg (show ¬ nI n - nI i < nI k by rw [sub_lt hn (by omega) (by omega)]; omega)]
  rfl
theorem k37f {z c : Nat} {M : aM} {n : Nat} {x l : Int32} (hn : n ≤ 60) (h : M.1 c 1 = nI n) (ho : ¬ okP n x l) : f37 z c x l M = some (some (.inl (nI 0)), M) := by
  unfold f37
  by_cases o : x < 0
  · rw [if_pos o]; rfl
  · by_cases o' : l < 0
    · rw [if_neg o, if_pos o']; rfl
    · obtain ⟨i, hi, rfl⟩ := nI_of o
      obtain ⟨k, hk, rfl⟩ := nI_of o'
      rw [if_neg o, if_neg o', h, if_pos (show nI n - nI i < nI k by rw [sub_lt hn hi hk]; exact Nat.lt_of_not_le (fun q => ho ⟨i, k, hi, hk, rfl, rfl, q⟩))]
      rfl
theorem lsum {i k n : Nat} (hi : i < 2147483648) (hk : k < 2147483648) (hn : n ≤ 60) : (nI n).toInt64 < (nI i).toInt64 + (nI k).toInt64 ↔ n < i + k := by
  rw [nI_l (by omega), nI_l (by omega), nI_l (by omega), show lN i + lN k = lN (i + k) from (Int64.ofNat_add i k).symm, Int64.lt_iff_toInt_lt]
  unfold lN
  rw [lg_ofNat_toInt (by omega), lg_ofNat_toInt (by omega)]
  omega
theorem m_p1 {z : Nat} (hz : 2000 ≤ z) {s1 s3 i j k : Nat} (hs1 : s1 < 4) (hi : i + k ≤ 60) (M : aM) : ∃ M', f327_113 z z (nI s1) (nI i) (nI s3) (nI j) (nI k) (nI 0) M = f327_150 z z (nI s3) (nI j) (nI k) (nI 0) M' ∧ M'.1 = M.1 ∧ (∀ a, a ≠ 232 → M'.2 a = M.2 a) ∧ ∀ t, t < k → M'.2 232 t = M.2 231 (60 * s1 + i + t) := by
  obtain ⟨n, M', e, hF, hG, hI⟩ := lr0 (fun n t M' => f327_113 z n (nI s1) (nI i) (nI s3) (nI j) (nI k) (nI t) M') k (fun t M' => M'.1 = M.1 ∧ (∀ a, a ≠ 232 → M'.2 a = M.2 a) ∧ ∀ u, u < t → M'.2 232 u = M.2 231 (60 * s1 + i + u)) z M (by omega) ⟨rfl, fun _ _ => rfl, fun t ht => by omega⟩ (by
    intro n t M' ht hI
    refine ⟨(M'.1, am_ul M'.2 232 t (M'.2 231 (60 * s1 + i + t))), ?_, hI.1, ?_, ?_⟩
    · rw [f327_113]
      simp (disch := omega) only [n_0, n_1, n_2, n_3, n_4, n_5, n_6, n_7, n_8, n_9, n_10, n_12, n_13, n_16, n_30, n_60, n_61, n_86, n_99, n_100, n_200, n_201, n_1023, n_65535, n_10000, n_1000000, ↓q_m1, ↓q_m2, ↓q_m3, ↓q_m4, ↓q_m5, ↓q_m6, ↓q_m7, ↓q_m8, ↓q_m1000, ↓q_m100000, q_add, q_addm, q_inB, q_cl, q_le, q_lt, q_eq, q_eqm, q_meq, q_mltT, q_ltm, q_lem, q_mleT, if_true, if_false, if_pos, if_neg, Nat.reduceAdd, Nat.reduceMul, Nat.add_zero, Nat.zero_add, Nat.one_mul, not_true_eq_false, not_false_eq_true, u_row, u_self, u_ne, cb_bi, cb_bv, cb_bl, q_mul]
    · intro a ha
      show am_ul M'.2 232 t _ a = _
      rw [ul_row ha]
      exact hI.2.1 a ha
    · intro u hu
      show am_ul M'.2 232 t _ 232 u = _
      by_cases q : u = t
      · rw [q, ul_self, hI.2.1 231 (by omega)]
      · rw [ul_ne q]
        exact hI.2.2 u (by omega))
  refine ⟨M', ?_, hF, hG, hI⟩
  rw [e, f327_113]
  simp (disch := omega) only [n_0, n_1, n_2, n_3, n_4, n_5, n_6, n_7, n_8, n_9, n_10, n_12, n_13, n_16, n_30, n_60, n_61, n_86, n_99, n_100, n_200, n_201, n_1023, n_65535, n_10000, n_1000000, ↓q_m1, ↓q_m2, ↓q_m3, ↓q_m4, ↓q_m5, ↓q_m6, ↓q_m7, ↓q_m8, ↓q_m1000, ↓q_m100000, q_add, q_addm, q_inB, q_cl, q_le, q_lt, q_eq, q_eqm, q_meq, q_mltT, q_ltm, q_lem, q_mleT, if_true, if_false, if_pos, if_neg, Nat.reduceAdd, Nat.reduceMul, Nat.add_zero, Nat.zero_add, Nat.one_mul, not_true_eq_false, not_false_eq_true, u_row, u_self, u_ne, cb_bi, cb_bv, cb_bl]
theorem m_p2 {z : Nat} (hz : 2000 ≤ z) {s3 j k : Nat} (hs3 : s3 < 4) (hj : j + k ≤ 60) (M : aM) : ∃ M', f327_150 z z (nI s3) (nI j) (nI k) (nI 0) M = some (some (.inl (nI 0)), M') ∧ M'.1 = M.1 ∧ (∀ a, a ≠ 231 → M'.2 a = M.2 a) ∧ (∀ t, t < k → M'.2 231 (60 * s3 + j + t) = M.2 232 t) ∧ ∀ p, ¬ (60 * s3 + j ≤ p ∧ p < 60 * s3 + j + k) → M'.2 231 p = M.2 231 p := by
  obtain ⟨n, M', e, hF, hG, hI, hJ⟩ := lr0 (fun n t M' => f327_150 z n (nI s3) (nI j) (nI k) (nI t) M') k (fun t M' => M'.1 = M.1 ∧ (∀ a, a ≠ 231 → M'.2 a = M.2 a) ∧ (∀ u, u < t → M'.2 231 (60 * s3 + j + u) = M.2 232 u) ∧ ∀ p, ¬ (60 * s3 + j ≤ p ∧ p < 60 * s3 + j + k) → M'.2 231 p = M.2 231 p) z M (by omega) ⟨rfl, fun _ _ => rfl, fun t ht => by omega, fun _ _ => rfl⟩ (by
    intro n t M' ht hI
    refine ⟨(M'.1, am_ul M'.2 231 (60 * s3 + j + t) (M'.2 232 t)), ?_, hI.1, ?_, ?_, ?_⟩
    · rw [f327_150]
      simp (disch := omega) only [n_0, n_1, n_2, n_3, n_4, n_5, n_6, n_7, n_8, n_9, n_10, n_12, n_13, n_16, n_30, n_60, n_61, n_86, n_99, n_100, n_200, n_201, n_1023, n_65535, n_10000, n_1000000, ↓q_m1, ↓q_m2, ↓q_m3, ↓q_m4, ↓q_m5, ↓q_m6, ↓q_m7, ↓q_m8, ↓q_m1000, ↓q_m100000, q_add, q_addm, q_inB, q_cl, q_le, q_lt, q_eq, q_eqm, q_meq, q_mltT, q_ltm, q_lem, q_mleT, if_true, if_false, if_pos, if_neg, Nat.reduceAdd, Nat.reduceMul, Nat.add_zero, Nat.zero_add, Nat.one_mul, not_true_eq_false, not_false_eq_true, u_row, u_self, u_ne, cb_bi, cb_bv, cb_bl, q_mul]
    · intro a ha
      show am_ul M'.2 231 _ _ a = _
      rw [ul_row ha]
      exact hI.2.1 a ha
    · intro u hu
      show am_ul M'.2 231 _ _ 231 (60 * s3 + j + u) = _
      by_cases q : u = t
      · rw [q, ul_self, hI.2.1 232 (by omega)]
      · rw [ul_ne (by omega)]
        exact hI.2.2.1 u (by omega)
    · intro p hp
      show am_ul M'.2 231 _ _ 231 p = _
      rw [ul_ne (by omega)]
      exact hI.2.2.2 p hp)
  refine ⟨M', ?_, hF, hG, hI, hJ⟩
  rw [e, f327_150]
  simp (disch := omega) only [n_0, n_1, n_2, n_3, n_4, n_5, n_6, n_7, n_8, n_9, n_10, n_12, n_13, n_16, n_30, n_60, n_61, n_86, n_99, n_100, n_200, n_201, n_1023, n_65535, n_10000, n_1000000, ↓q_m1, ↓q_m2, ↓q_m3, ↓q_m4, ↓q_m5, ↓q_m6, ↓q_m7, ↓q_m8, ↓q_m1000, ↓q_m100000, q_add, q_addm, q_inB, q_cl, q_le, q_lt, q_eq, q_eqm, q_meq, q_mltT, q_ltm, q_lem, q_mleT, if_true, if_false, if_pos, if_neg, Nat.reduceAdd, Nat.reduceMul, Nat.add_zero, Nat.zero_add, Nat.one_mul, not_true_eq_false, not_false_eq_true, u_row, u_self, u_ne, cb_bi, cb_bv, cb_bl]
theorem cpok {i j k : Nat} (hi : i + k ≤ 60) (hj : j + k ≤ 60) : am_cpOk (nI i) (nI j) (nI k) 60 60 = true := by
  unfold am_cpOk
  rw [decide_eq_false (show ¬ nI i < 0 by rw [n_0, q_lt (by omega) (by omega)]; omega), decide_eq_false (show ¬ nI j < 0 by rw [n_0, q_lt (by omega) (by omega)]; omega), decide_eq_false (show ¬ nI k < 0 by rw [n_0, q_lt (by omega) (by omega)]; omega), q_cl (by omega), q_cl (by omega), q_cl (by omega), Nat.ble_eq_true_of_le hi, Nat.ble_eq_true_of_le hj]
  rfl
theorem P_paste {z : Nat} (hz : 2000 ≤ z) {M : aM} {W : cW} (h : RW M W) (x1 x2 x3 x4 x5 : Int32) : PR (f168 z x1 x2 x3 x4 x5 M) (f327 z x1 x2 x3 x4 x5) := by
  by_cases o1 : okN 4 x1
  · obtain ⟨s, hs, rfl⟩ := o1
    by_cases o3 : okN 4 x3
    · obtain ⟨r, hr, rfl⟩ := o3
      have es : 152 + (3 + 2 * s) = 155 + 2 * s := by omega
      have er : 152 + (3 + 2 * r) = 155 + 2 * r := by omega
      have c1 : f168 z (nI s) x2 (nI r) x4 x5 M = am_bi (f34 z (155 + 2 * s) M) fun v6 M5 => (if v6 = 0 then some (some (.inl (-6 : Int32)), M5) else am_bi (f34 z (155 + 2 * r) M5) fun v8 M7 => if ¬ v8 = 0 then (if (M7.1 (155 + 2 * s) 0) = (M7.1 (155 + 2 * r) 0) then am_bi (f37 z (155 + 2 * s) x2 x5 M7) fun v10 M9 => (if v10 = 0 then some (some (.inl (-7 : Int32)), M9) else am_bi (f37 z (155 + 2 * r) x4 x5 M9) fun v12 M11 => (if ¬ v12 = 0 then (if am_cpOk x2 x4 x5 60 60 then some (some (.inl (0 : Int32)), (M11.1, am_ua M11.2 ((155 + 2 * r) + 1) (va_cpy (M11.2 ((155 + 2 * s) + 1)) (M11.2 ((155 + 2 * r) + 1)) x2.toNatClampNeg x4.toNatClampNeg x5.toNatClampNeg))) else none) else some (some (.inl (-7 : Int32)), M11))) else some (some (.inl (-8 : Int32)), M7)) else some (some (.inl (-6 : Int32)), M7)) := by
        unfold f168
        rw [k164t hs, cb_bi, i1f, k164t hr, cb_bi, i1n, if_pos (q_inB hs (by omega)), if_pos (q_inB hr (by omega)), q_cl (by omega), q_cl (by omega), es, er]
      have m0 : ∀ M : aM, f327 z (nI s) x2 (nI r) x4 x5 M = (if M.1 229 s = -1 then some (some (.inl (-6 : Int32)), M) else if ¬ M.1 229 r = -1 then (if M.1 230 s = M.1 230 r then (if x2 < 0 then some (some (.inl (-7 : Int32)), M) else if x4 < 0 then some (some (.inl (-7 : Int32)), M) else if x5 < 0 then some (some (.inl (-7 : Int32)), M) else if 0 < lg_cmp (x2.toInt64 + x5.toInt64) (M.1 229 s).toInt64 then some (some (.inl (-7 : Int32)), M) else if lg_cmp (x4.toInt64 + x5.toInt64) (M.1 229 r).toInt64 ≤ 0 then f327_113 z z (nI s) x2 (nI r) x4 x5 0 M else some (some (.inl (-7 : Int32)), M)) else some (some (.inl (-8 : Int32)), M)) else some (some (.inl (-6 : Int32)), M)) := by
        intro M
        unfold f327
        simp only [k323t hs, k323t hr, cb_bi, i1f, i1n, if_pos (q_inB hs (show 4 ≤ 100000 by omega)), if_pos (q_inB hr (show 4 ≤ 100000 by omega)), q_cl (show s < 2147483648 by omega), q_cl (show r < 2147483648 by omega)]
      have m1 := m0 M
      rcases h.s s hs with ⟨q1, q2⟩ | ⟨w, n, q1, q2, q3, q4, q5, q6, q7⟩
      · refine PR.r (M := M) (v := -6) (M1 := M) ?_ h ⟨M, ?_, kR.id0⟩
        · rw [c1, k34f q1, cb_bi, i0f]
        · rw [m1, q2, if_pos (show mI = -1 from rfl)]
      · have hd : sD M s n (M.2 (156 + 2 * s)) := ⟨q2, ⟨w, q1, q3⟩, q4, q5, fun i hi => ⟨rfl, (q7 i hi).symm⟩⟩
        have h9 : ¬ nI n = -1 := of_eq_false (q_eqm (by omega))
        rcases h.s r hr with ⟨p1, p2⟩ | ⟨w', n', p1, p2, p3, p4, p5, p6, p7⟩
        · refine PR.r (M := M) (v := -6) (M1 := M) ?_ h ⟨M, ?_, kR.id0⟩
          · rw [c1, k34t hd, cb_bi, i1f, k34f p1, cb_bi, i0n]
          · rw [m1, q5, p2, if_neg h9, if_neg (show ¬ ¬ mI = -1 from fun q => q rfl)]
        · have hd' : sD M r n' (M.2 (156 + 2 * r)) := ⟨p2, ⟨w', p1, p3⟩, p4, p5, fun i hi => ⟨rfl, (p7 i hi).symm⟩⟩
          have h9' : ¬ nI n' = -1 := of_eq_false (q_eqm (by omega))
          rw [k34t hd, cb_bi, i1f, k34t hd', cb_bi, i1n, q3, p3] at c1
          have m1 : ∀ M1 : aM, M1.1 = M.1 → f327 z (nI s) x2 (nI r) x4 x5 M1 = (if nI w = nI w' then (if x2 < 0 then some (some (.inl (-7 : Int32)), M1) else if x4 < 0 then some (some (.inl (-7 : Int32)), M1) else if x5 < 0 then some (some (.inl (-7 : Int32)), M1) else if 0 < lg_cmp (x2.toInt64 + x5.toInt64) (nI n).toInt64 then some (some (.inl (-7 : Int32)), M1) else if lg_cmp (x4.toInt64 + x5.toInt64) (nI n').toInt64 ≤ 0 then f327_113 z z (nI s) x2 (nI r) x4 x5 0 M1 else some (some (.inl (-7 : Int32)), M1)) else some (some (.inl (-8 : Int32)), M1)) := fun M1 e => by
            rw [m0 M1, e, q5, p5, q6, p6, if_neg h9, if_pos h9']
          by_cases ww : nI w = nI w'
          · rw [if_pos ww] at c1
            have m1 := fun M1 e => (m1 M1 e).trans (if_pos ww)
            by_cases oa : okP n x2 x5
            · obtain ⟨i, k, hi, hk, rfl, rfl, hik⟩ := oa
              rw [k37t q2 q4 hik, cb_bi, i1f] at c1
              by_cases ob : okP n' x4 (nI k)
              · obtain ⟨j, k', hj, hk', rfl, ek, hjk⟩ := ob
                have ek' : k = k' := by rw [q_eq hk hk'] at ek; exact ek
                subst ek'
                rw [k37t p2 p4 hjk, cb_bi, i1n, if_pos (cpok (by omega) (by omega)), q_cl (by omega), q_cl (by omega), q_cl (by omega)] at c1
                generalize hM1 : ((M.1, am_ua M.2 (155 + 2 * r + 1) (va_cpy (M.2 (155 + 2 * s + 1)) (M.2 (155 + 2 * r + 1)) i j k)) : aM) = M1 at c1
                have e1 : M1.1 = M.1 := by rw [← hM1]
                have e2 : ∀ a, a ≠ 156 + 2 * r → M1.2 a = M.2 a := fun a ha => by
                  rw [← hM1]
                  show am_ua M.2 _ _ a = _
                  unfold am_ua
                  exact if_neg (by omega)
                have e3 : ∀ p, M1.2 (156 + 2 * r) p = if j ≤ p ∧ p < j + k then M.2 (156 + 2 * s) (i + (p - j)) else M.2 (156 + 2 * r) p := fun p => by
                  rw [← hM1]
                  show am_ua M.2 (155 + 2 * r + 1) _ (156 + 2 * r) p = _
                  rw [show 156 + 2 * r = 155 + 2 * r + 1 by omega, show 156 + 2 * s = 155 + 2 * s + 1 by omega]
                  unfold am_ua
                  rw [if_pos rfl]
                  rfl
                obtain ⟨M2, a1, a2, a3, a4⟩ := m_p1 (s3 := r) (j := j) hz hs (show i + k ≤ 60 by omega) M1
                obtain ⟨M3, b1, b2, b3, b4, b5⟩ := m_p2 hz hr (show j + k ≤ 60 by omega) M2
                have m9 := m1 M1 e1
                rw [if_neg (show ¬ nI i < 0 by rw [n_0, q_lt (by omega) (by omega)]; omega), if_neg (show ¬ nI j < 0 by rw [n_0, q_lt (by omega) (by omega)]; omega), if_neg (show ¬ nI k < 0 by rw [n_0, q_lt (by omega) (by omega)]; omega), if_neg (show ¬ 0 < lg_cmp ((nI i).toInt64 + (nI k).toInt64) (nI n).toInt64 by rw [lg_cmp_gt, lsum hi hk q2]; omega), if_pos (show lg_cmp ((nI j).toInt64 + (nI k).toInt64) (nI n').toInt64 ≤ 0 by rw [lg_cmp_le, ← Int64.not_lt, lsum hj hk p2]; omega)] at m9
                refine ⟨nI 0, M1, M3, c1, ?_, W, h.sl (by rw [b2, a2, e1]) (h.s.wr (s := r) (by rw [b2, a2, e1]) ?_ ?_)⟩
                · rw [m9, n_0, a1, b1]
                · intro t ht htr p hp
                  rw [b3 _ (by omega), a3 _ (by omega), e2 _ (by omega), b5 _ (by omega), a3 _ (by omega), e2 _ (by omega)]
                  exact ⟨rfl, rfl⟩
                · intro p hp
                  rw [b3 _ (by omega), a3 _ (by omega), e3]
                  by_cases hp2 : j ≤ p ∧ p < j + k
                  · have b4' := b4 (p - j) (by omega)
                    rw [show 60 * r + j + (p - j) = 60 * r + p by omega, a4 _ (by omega), e2 _ (by omega)] at b4'
                    rw [if_pos hp2, b4', q7 _ (by omega), Nat.add_assoc]
                  · rw [if_neg hp2, b5 _ (by omega), a3 _ (by omega), e2 _ (by omega)]
                    exact p7 p hp
              · have m9 := m1 M rfl
                refine PR.r (M := M) (v := -7) (M1 := M) ?_ h ⟨M, ?_, kR.id0⟩
                · rw [c1, k37f p2 p4 ob, cb_bi, i0n]
                · rw [m9, if_neg (show ¬ nI i < 0 by rw [n_0, q_lt (by omega) (by omega)]; omega)]
                  by_cases z4 : x4 < 0
                  · rw [if_pos z4]
                  · obtain ⟨j, hj, rfl⟩ := nI_of z4
                    rw [if_neg z4, if_neg (show ¬ nI k < 0 by rw [n_0, q_lt (by omega) (by omega)]; omega), if_neg (show ¬ 0 < lg_cmp ((nI i).toInt64 + (nI k).toInt64) (nI n).toInt64 by rw [lg_cmp_gt, lsum hi hk q2]; omega), if_neg (show ¬ lg_cmp ((nI j).toInt64 + (nI k).toInt64) (nI n').toInt64 ≤ 0 by rw [lg_cmp_le, ← Int64.not_lt, lsum hj hk p2]; exact fun q => ob ⟨j, k, hj, hk, rfl, rfl, by omega⟩)]
            · have m9 := m1 M rfl
              refine PR.r (M := M) (v := -7) (M1 := M) ?_ h ⟨M, ?_, kR.id0⟩
              · rw [c1, k37f q2 q4 oa, cb_bi, i0f]
              · rw [m9]
                by_cases z2 : x2 < 0
                · rw [if_pos z2]
                · by_cases z4 : x4 < 0
                  · rw [if_neg z2, if_pos z4]
                  · by_cases z5 : x5 < 0
                    · rw [if_neg z2, if_neg z4, if_pos z5]
                    · obtain ⟨i, hi, rfl⟩ := nI_of z2
                      obtain ⟨k, hk, rfl⟩ := nI_of z5
                      rw [if_neg z2, if_neg z4, if_neg z5, if_pos (show 0 < lg_cmp ((nI i).toInt64 + (nI k).toInt64) (nI n).toInt64 by rw [lg_cmp_gt, lsum hi hk q2]; exact Nat.lt_of_not_le (fun q => oa ⟨i, k, hi, hk, rfl, rfl, q⟩))]
          · refine PR.r (M := M) (v := -8) (M1 := M) ?_ h ⟨M, ?_, kR.id0⟩
            · rw [c1, if_neg ww]
            · rw [m1 M rfl, if_neg ww]
    · refine PR.r (M := M) (v := -2) (M1 := M) ?_ h ⟨M, ?_, kR.id0⟩
      · unfold f168
        rw [k164t hs, cb_bi, i1f, k164f o3, cb_bi, i0n]
      · unfold f327
        rw [k323t hs, cb_bi, i1f, k323f o3, cb_bi, i0n]
  · refine PR.r (M := M) (v := -2) (M1 := M) ?_ h ⟨M, ?_, kR.id0⟩
    · unfold f168
      rw [k164f o1, cb_bi, i0f]
    · unfold f327
      rw [k323f o1, cb_bi, i0f]
