/-! ===== what was seen ===== -/
theorem k164t {z : Nat} {M : aM} {s : Nat} (h : s < 4) : f164 z (nI s) M = some (some (.inl (nI 1)), M) := by
  unfold f164
  rw [n_0, n_3, k165t (Nat.zero_le s) (show s ≤ 3 by omega) (by omega), cb_bi]
  rfl
theorem k164f {z : Nat} {M : aM} {x : Int32} (h : ¬ okN 4 x) : f164 z x M = some (some (.inl (nI 0)), M) := by
  unfold f164
  rw [n_0, n_3, k165f (fun q => by obtain ⟨n, _, hn, e⟩ := q; exact h ⟨n, by omega, e⟩) (by omega) (by omega), cb_bi]
  rfl
theorem k323t {z : Nat} {M : aM} {s : Nat} (h : s < 4) : f323 z (nI s) M = some (some (.inl (nI 1)), M) := by
  unfold f323
  rw [k170t 3 L3 (by omega) (show s ≤ 3 by omega), cb_bi]
  rfl
theorem k323f {z : Nat} {M : aM} {x : Int32} (h : ¬ okN 4 x) : f323 z x M = some (some (.inl (nI 0)), M) := by
  unfold f323
  rw [k170f 3 L3 (by omega) h, cb_bi]
  rfl
/-- a slot that is there -/
def sD (M : aM) (s n : Nat) (N : Nat → Int64) : Prop := n ≤ 60 ∧ (∃ w, w ≤ 3 ∧ M.1 (155 + 2 * s) 0 = nI w) ∧ M.1 (155 + 2 * s) 1 = nI n ∧ M.1 229 s = nI n ∧ (∀ i, i < 60 → M.2 (156 + 2 * s) i = N i ∧ M.2 231 (60 * s + i) = N i)
theorem sD.k {M M' : aM} {s n : Nat} {N : Nat → Int64} (h : sD M s n N) (hs : s < 4) (k : kR M M') : sD M' s n N := by
  unfold sD
  rw [k.1 (155 + 2 * s) (by omega) (by unfold Sc; omega), k.1 229 (by omega) (by unfold Sc; omega), k.2.2 (156 + 2 * s) (by omega) (by omega), k.2.2 231 (by omega) (by omega)]
  exact h
theorem sL.cs {M : aM} (h : sL M) {s : Nat} (hs : s < 4) : (M.1 (155 + 2 * s) 0 = mI ∧ M.1 229 s = mI) ∨ ∃ n N, sD M s n N := by
  rcases h s hs with q | ⟨w, n, h1, h2, h3, h4, h5, h6, h7⟩
  · exact .inl q
  · exact .inr ⟨n, M.2 (156 + 2 * s), h2, ⟨w, h1, h3⟩, h4, h5, fun i hi => ⟨rfl, (h7 i hi).symm⟩⟩
theorem RW.s {M : aM} {W : cW} (h : RW M W) : sL M := h.2.2.2.2.2.2.1
theorem k34t {z : Nat} {M : aM} {s n : Nat} {N : Nat → Int64} (h : sD M s n N) : f34 z (155 + 2 * s) M = some (some (.inl (nI 1)), M) := by
  obtain ⟨_, ⟨w, hw, e⟩, _⟩ := h
  unfold f34
  rw [e, if_neg (show ¬ nI w = -1 from of_eq_false (q_eqm (by omega)))]
  rfl
theorem k34f {z : Nat} {M : aM} {s : Nat} (h : M.1 (155 + 2 * s) 0 = mI) : f34 z (155 + 2 * s) M = some (some (.inl (nI 0)), M) := by
  unfold f34
  rw [h, if_pos (show mI = -1 from rfl)]
  rfl
theorem k29t {z : Nat} {M : aM} {y L : Int64} (h : 0 ≤ y ∧ y ≤ L) : f29 z y L M = some (some (.inl (nI 1)), M) := by
  unfold f29
  rw [if_neg (by rw [lg_cmp_lt]; exact Int64.not_lt.mpr h.1), if_neg (by rw [lg_cmp_gt]; exact Int64.not_lt.mpr h.2)]
  rfl
theorem k29f {z : Nat} {M : aM} {y L : Int64} (h : ¬ (0 ≤ y ∧ y ≤ L)) : f29 z y L M = some (some (.inl (nI 0)), M) := by
  unfold f29
  by_cases q : y < 0
  · rw [if_pos (by rw [lg_cmp_lt]; exact q)]
    rfl
  · rw [if_neg (by rw [lg_cmp_lt]; exact q), if_pos (by rw [lg_cmp_gt]; exact Int64.not_le.mp (fun r => h ⟨Int64.not_lt.mp q, r⟩))]
    rfl
def ok1 (W : cW) (y : Int64) : Prop := 0 ≤ y ∧ y ≤ (nI (W 0 4) - nI 1).toInt64
def ok2 (W : cW) (y : Int64) : Prop := 0 ≤ y ∧ y ≤ (nI (W 0 0)).toInt64
def ok3' (y : Int64) : Prop := 0 ≤ y ∧ y ≤ 99
/-- triple j is no good -/
noncomputable def bdT (W : cW) (N : Nat → Int64) : Nat → Bool := fun j => @decide (¬ (ok1 W (N (3 * j)) ∧ ok2 W (N (3 * j + 1)) ∧ ok3' (N (3 * j + 2)))) (Classical.propDecidable _)
theorem bdT_f {W : cW} {N : Nat → Int64} {j : Nat} (h1 : ok1 W (N (3 * j))) (h2 : ok2 W (N (3 * j + 1))) (h3 : ok3' (N (3 * j + 2))) : bdT W N j = false := by
  unfold bdT
  rw [@decide_eq_false_iff_not _ (Classical.propDecidable _)]
  exact fun q => q ⟨h1, h2, h3⟩
theorem bdT_t {W : cW} {N : Nat → Int64} {j : Nat} (h : ¬ (ok1 W (N (3 * j)) ∧ ok2 W (N (3 * j + 1)) ∧ ok3' (N (3 * j + 2)))) : bdT W N j = true := by
  unfold bdT
  rw [@decide_eq_true_iff _ (Classical.propDecidable _)]
  exact h
theorem bdT_i {W : cW} {N : Nat → Int64} {j : Nat} (h : bdT W N j = false) : ok1 W (N (3 * j)) ∧ ok2 W (N (3 * j + 1)) ∧ ok3' (N (3 * j + 2)) := by
  unfold bdT at h
  rw [@decide_eq_false_iff_not _ (Classical.propDecidable _)] at h
  exact Classical.byContradiction h
/-- isSeen -/
theorem c_seen {z : Nat} (hz : 2000 ≤ z) {M : aM} {W : cW} (hC : rC M 18 W) {s n m : Nat} {N : Nat → Int64} (h : sD M s n N) (hm : n = 3 * m) : f28 z 18 (155 + 2 * s) M = some (some (.inl (nI (if fst (bdT W N) m = none then 1 else 0))), M) := by
  obtain ⟨h60, _, hn, _, hN⟩ := h
  have e3 : (M.1 (155 + 2 * s) 1 - M.1 (155 + 2 * s) 1 / 3 * 3 : Int32) = nI 0 := by
    rw [hn, n_3, q_div (by omega) (by omega) (by omega), q_mul, q_rem, hm]
    congr 1
    omega
  unfold f28
  rw [if_neg (by decide), e3, if_pos (show nI 0 = 0 from rfl), n_0]
  refine Eq.trans (le0 (fun n k => f28_13 z n 18 (155 + 2 * s) (nI (3 * k)) M) m z (bdT W N) (fun _ => some (some (.inl (nI 0)), M)) (some (some (.inl (nI 1)), M)) (by omega) (by
    intro n' k hk
    have v1 := (hN (3 * k) (by omega)).1
    have v2 := (hN (3 * k + 1) (by omega)).1
    have v3 := (hN (3 * k + 2) (by omega)).1
    have ee : 155 + 2 * s + 1 = 156 + 2 * s := by omega
    rw [f28_13, hn, n_1, n_2, n_3, q_add, q_add, q_add, if_neg (show ¬ nI n ≤ nI (3 * k + 2) by rw [q_le (by omega) (by omega)]; omega), if_pos (q_inB (show 3 * k < 60 by omega) (by omega)), q_cl (by omega), q_cl (by omega), q_cl (by omega), ee, v1, hC.i5]
    by_cases o1 : ok1 W (N (3 * k))
    · rw [k29t o1, cb_bi, i1f, if_pos (q_inB (show 3 * k + 1 < 60 by omega) (by omega)), v2, hC.i1]
      by_cases o2 : ok2 W (N (3 * k + 1))
      · rw [k29t o2, cb_bi, i1f, if_pos (q_inB (show 3 * k + 2 < 60 by omega) (by omega)), v3]
        by_cases o3 : ok3' (N (3 * k + 2))
        · rw [k29t o3, cb_bi, i1n, bdT_f o1 o2 o3, if_neg (by decide)]
          rfl
        · rw [k29f o3, cb_bi, i0n, bdT_t (fun q => o3 q.2.2), if_pos rfl]
          rfl
      · rw [k29f o2, cb_bi, i0f, bdT_t (fun q => o2 q.2.1), if_pos rfl]
        rfl
    · rw [k29f o1, cb_bi, i0f, bdT_t (fun q => o1 q.1), if_pos rfl]
      rfl) (by
    intro n'
    rw [f28_13, hn, n_2, q_add, if_pos (show nI n ≤ nI (3 * m + 2) by rw [q_le (by omega) (by omega)]; omega)]
    rfl)) ?_
  cases fst (bdT W N) m <;> rfl
theorem c_seen3 {z : Nat} {M : aM} {s n : Nat} {N : Nat → Int64} (h : sD M s n N) (hm : n % 3 ≠ 0) : f28 z 18 (155 + 2 * s) M = some (some (.inl (nI 0)), M) := by
  obtain ⟨h60, _, hn, _, hN⟩ := h
  have e3 : (M.1 (155 + 2 * s) 1 - M.1 (155 + 2 * s) 1 / 3 * 3 : Int32) = nI (n % 3) := by
    rw [hn, n_3, q_div (by omega) (by omega) (by omega), q_mul, q_rem]
  unfold f28
  rw [if_neg (by decide), e3, if_neg (nI_ne0 (by omega) (by omega))]
  rfl
/-! the model's askSeen -/
theorem g284 {z : Nat} {M : aM} {s n i : Nat} {N : Nat → Int64} (hs : s < 4) (h : sD M s n N) (hi : i < 60) : f284 z (nI s) (nI i) M = some (some (.inr (.inl (N i))), M) := by
  have v := (h.2.2.2.2 i hi).2
  unfold f284
  rw [n_60, q_mul, q_add, if_pos (q_inB (show 60 * s + i < 240 by omega) (by omega)), q_cl (by omega), v]
theorem k183y {z : Nat} {M : aM} {W : cW} (h : rM (M.1 206) W) {y : Int64} (hy : ok1 W y) : f183 z y M = some (some (.inl (nI 1)), M) := by
  unfold f183
  rw [g178 h, cb_bi, n_1, g170t z M hy, cb_bi]
  rfl
theorem k183n {z : Nat} {M : aM} {W : cW} (h : rM (M.1 206) W) {y : Int64} (hy : ¬ ok1 W y) : f183 z y M = some (some (.inl (nI 0)), M) := by
  unfold f183
  rw [g178 h, cb_bi, n_1, g170f z M hy, cb_bi]
  rfl
theorem k180y {z : Nat} {M : aM} {W : cW} (h : rM (M.1 206) W) (hW : wf W) (h7 : 0 < W 0 7) {y : Int64} (hy : ok2 W y) : f180 z y M = some (some (.inl (nI 1)), M) := by
  unfold f180
  rw [g175t h hW h7, cb_bi, if_neg (by decide), g176 h, cb_bi, g170t z M hy, cb_bi]
  rfl
theorem k180n {z : Nat} {M : aM} {W : cW} (h : rM (M.1 206) W) (hW : wf W) (h7 : 0 < W 0 7) {y : Int64} (hy : ¬ ok2 W y) : f180 z y M = some (some (.inl (nI 0)), M) := by
  unfold f180
  rw [g175t h hW h7, cb_bi, if_neg (by decide), g176 h, cb_bi, g170f z M hy, cb_bi]
  rfl
theorem m_seen {z : Nat} (hz : 2000 ≤ z) {M M0 : aM} {W : cW} (r : rM (M.1 206) W) (hW : wf W) (h7 : 0 < W 0 7) {s n m : Nat} {N : Nat → Int64} (hs : s < 4) (h : sD M s n N) (hm : n = 3 * m) (ha : f211 z M = some (none, M0)) : f285 z (nI s) M = (match fst (bdT W N) m with | some _ => some (some (.inl cm2), M) | none => some (some (.inl (nI 0)), M0)) := by
  have h' := h
  obtain ⟨h60, _, _, hn, hN⟩ := h
  have e3 : (M.1 229 s - M.1 229 s / 3 * 3 : Int32) = nI 0 := by
    rw [hn, n_3, q_div (by omega) (by omega) (by omega), q_mul, q_rem, hm]
    congr 1
    omega
  have eb := q_inB (show s < 4 by omega) (show 4 ≤ 100000 by omega)
  unfold f285
  rw [k323t hs, cb_bi, i1f, g175t r hW h7, cb_bi, i1n, if_pos eb, q_cl (by omega), if_pos (show ¬ M.1 229 s = -1 by rw [hn]; exact of_eq_false (q_eqm (by omega))), if_pos eb, if_neg (by decide), e3, if_pos (show nI 0 = 0 from rfl), n_0]
  exact le0 (fun n k => f285_46 z n (nI s) (nI (3 * k)) M) m z (bdT W N) (fun _ => some (some (.inl cm2), M)) (some (some (.inl (nI 0)), M0)) (by omega) (by
    intro n' k hk
    rw [f285_46, if_pos eb, q_cl (by omega), hn, if_neg (show ¬ nI n ≤ nI (3 * k) by rw [q_le (by omega) (by omega)]; omega), g284 hs h' (show 3 * k < 60 by omega), cb_bl]
    by_cases o1 : ok1 W (N (3 * k))
    · rw [k183y r o1, cb_bi, i1f, n_1, q_add, g284 hs h' (show 3 * k + 1 < 60 by omega), cb_bl]
      by_cases o2 : ok2 W (N (3 * k + 1))
      · rw [k180y r hW h7 o2, cb_bi, i1f, n_2, q_add, g284 hs h' (show 3 * k + 2 < 60 by omega), cb_bl]
        by_cases o3 : ok3' (N (3 * k + 2))
        · rw [g170t z M o3, cb_bi, if_pos (by decide), bdT_f o1 o2 o3, if_neg (by decide), n_3, q_add]
          rfl
        · rw [g170f z M o3, cb_bi, if_neg (by decide), bdT_t (fun q => o3 q.2.2), if_pos rfl]
          rfl
      · rw [k180n r hW h7 o2, cb_bi, i0f, bdT_t (fun q => o2 q.2.1), if_pos rfl]
        rfl
    · rw [k183n r o1, cb_bi, i0f, bdT_t (fun q => o1 q.1), if_pos rfl]
      rfl) (by
    intro n'
    rw [f285_46, if_pos eb, q_cl (by omega), hn, if_pos (show nI n ≤ nI (3 * m) by rw [q_le (by omega) (by omega)]; omega), ha, cb_bv]
    rfl)
theorem m_seen3 {z : Nat} {M : aM} {W : cW} (r : rM (M.1 206) W) (hW : wf W) (h7 : 0 < W 0 7) {s n : Nat} {N : Nat → Int64} (hs : s < 4) (h : sD M s n N) (hm : n % 3 ≠ 0) : f285 z (nI s) M = some (some (.inl cm2), M) := by
  obtain ⟨h60, _, _, hn, hN⟩ := h
  have e3 : (M.1 229 s - M.1 229 s / 3 * 3 : Int32) = nI (n % 3) := by
    rw [hn, n_3, q_div (by omega) (by omega) (by omega), q_mul, q_rem]
  have eb := q_inB (show s < 4 by omega) (show 4 ≤ 100000 by omega)
  unfold f285
  rw [k323t hs, cb_bi, i1f, g175t r hW h7, cb_bi, i1n, if_pos eb, q_cl (by omega), if_pos (show ¬ M.1 229 s = -1 by rw [hn]; exact of_eq_false (q_eqm (by omega))), if_pos eb, if_neg (by decide), e3, if_neg (nI_ne0 (by omega) (by omega))]
  rfl
theorem m_seen6 {z : Nat} {M : aM} {W : cW} (r : rM (M.1 206) W) (hW : wf W) (h7 : 0 < W 0 7) {s : Nat} (hs : s < 4) (h : M.1 229 s = mI) : f285 z (nI s) M = some (some (.inl cm6), M) := by
  have eb := q_inB (show s < 4 by omega) (show 4 ≤ 100000 by omega)
  unfold f285
  rw [k323t hs, cb_bi, i1f, g175t r hW h7, cb_bi, i1n, if_pos eb, q_cl (by omega), h, if_neg (show ¬ ¬ mI = -1 from fun q => q rfl)]
  rfl
/-! agreement -/
def tt (N : Nat → Int64) (j : Nat) : Nat := (N (3 * j)).toInt.toNat
def yy (N : Nat → Int64) (j : Nat) : Nat := (N (3 * j + 1)).toInt.toNat
theorem lN_of {y : Int64} {B : Int32} {b : Nat} (hB : B.toInt ≤ b) (hb : b < 2147483648) (h : 0 ≤ y ∧ y ≤ B.toInt64) : y = lN y.toInt.toNat ∧ y.toInt.toNat ≤ b ∧ (0 ≤ B.toInt) := by
  have h0 := h.1
  have h1 := h.2
  rw [Int64.le_iff_toInt_le] at h0 h1
  rw [Int32.toInt_toInt64] at h1
  have z0 : (0 : Int64).toInt = 0 := by decide
  rw [z0] at h0
  refine ⟨?_, by omega, by omega⟩
  apply Int64.toInt_inj.mp
  rw [pk_lT (by omega)]
  omega
theorem tt_ok {W : cW} (hW : wf W) {N : Nat → Int64} {j : Nat} (h : bdT W N j = false) : N (3 * j) = lN (tt N j) ∧ tt N j < W 0 4 ∧ N (3 * j + 1) = lN (yy N j) ∧ yy N j ≤ W 0 0 := by
  have hT : W 0 4 ≤ 16 := hW.2.2.2.2.1
  have hY : W 0 0 ≤ 12 := hW.1
  obtain ⟨h1, h2, h3⟩ := bdT_i h
  have a := lN_of (B := nI (W 0 4) - nI 1) (b := W 0 4 - 1) (by rw [q_subI (by omega) (by omega)]; omega) (by omega) h1
  rw [q_subI (by omega) (by omega)] at a
  have b := lN_of (B := nI (W 0 0)) (b := W 0 0) (by rw [nI_toInt (by omega)]; omega) (by omega) h2
  exact ⟨a.1, by show (N (3 * j)).toInt.toNat < W 0 4; omega, b.1, b.2.1⟩
def agB (N : Nat → Int64) (Y : cY) : Nat → Bool := fun j => !decide (lg_cmp (nI (Y (yy N j) (tt N j))).toInt64 (N (3 * j + 2)) = 0)
theorem agB_t {N : Nat → Int64} {Y : cY} {j : Nat} (h : ¬ lg_cmp (nI (Y (yy N j) (tt N j))).toInt64 (N (3 * j + 2)) = 0) : agB N Y j = true := by
  unfold agB; simp [h]
theorem agB_f {N : Nat → Int64} {Y : cY} {j : Nat} (h : lg_cmp (nI (Y (yy N j) (tt N j))).toInt64 (N (3 * j + 2)) = 0) : agB N Y j = false := by
  unfold agB; simp [h]
/-- agrees -/
theorem c_agrees {z : Nat} (hz : 2000 ≤ z) {M : aM} {W : cW} {Y : cY} (hW : wf W) {s n m : Nat} {N : Nat → Int64} (h : sD M s n N) (hm : n = 3 * m) (hok : fst (bdT W N) m = none) (hY : yR M 117 W Y (W 0 0)) : f32 z (155 + 2 * s) M = some (some (.inl (nI (if fst (agB N Y) m = none then 1 else 0))), M) := by
  have hT : W 0 4 ≤ 16 := hW.2.2.2.2.1
  have hY0 : W 0 0 ≤ 12 := hW.1
  obtain ⟨h60, _, hn, _, hN⟩ := h
  unfold f32
  rw [n_0]
  refine Eq.trans (le0 (fun n k => f32_2 z n (155 + 2 * s) (nI (3 * k)) M) m z (agB N Y) (fun _ => some (some (.inl (nI 0)), M)) (some (some (.inl (nI 1)), M)) (by omega) (by
    intro n' k hk
    obtain ⟨t1, t2, t3, t4⟩ := tt_ok hW (fst_n hok k hk)
    have v1 := (hN (3 * k) (by omega)).1
    have v2 := (hN (3 * k + 1) (by omega)).1
    have v3 := (hN (3 * k + 2) (by omega)).1
    have ee : 155 + 2 * s + 1 = 156 + 2 * s := by omega
    have er : 118 + (1 + 1 * yy N k) = 117 + 2 + yy N k := by omega
    have hrow := hY.1 (yy N k) t4 (tt N k) t2
    rw [t1] at v1
    rw [t3] at v2
    rw [f32_2, hn, n_1, n_2, n_3, q_add, q_add, q_add, if_neg (show ¬ nI n ≤ nI (3 * k + 2) by rw [q_le (by omega) (by omega)]; omega), if_pos (q_inB (show 3 * k < 60 by omega) (by omega)), if_pos (q_inB (show 3 * k + 1 < 60 by omega) (by omega)), q_cl (by omega), q_cl (by omega), q_cl (by omega), ee, v1, v2, v3, lN_i, lN_i, if_pos (q_inB (show yy N k < 13 by omega) (by omega)), if_pos (q_inB (show tt N k < 16 by omega) (by omega)), if_pos (q_inB (show 3 * k + 2 < 60 by omega) (by omega)), q_cl (by omega), q_cl (by omega), er, hrow]
    by_cases q : lg_cmp (nI (Y (yy N k) (tt N k))).toInt64 (N (3 * k + 2)) = 0
    · rw [if_pos q, agB_f q, if_neg (by decide)]
      rfl
    · rw [if_neg q, agB_t q, if_pos rfl]
      rfl) (by
    intro n'
    rw [f32_2, hn, n_2, q_add, if_pos (show nI n ≤ nI (3 * m + 2) by rw [q_le (by omega) (by omega)]; omega)]
    rfl)) ?_
  cases fst (agB N Y) m <;> rfl
/-- isSeen of the model, behind goAll -/
theorem m_agrees {z : Nat} (hz : 2000 ≤ z) {M : aM} {W : cW} {Y : cY} (hW : wf W) {s n m : Nat} {N : Nat → Int64} (hs : s < 4) (h : sD M s n N) (hm : n = 3 * m) (hok : fst (bdT W N) m = none) (hR : zR M W Y (W 0 0 + 1)) : f286_6 z z (nI s) (nI 0) M = some (some (.inl (nI (if fst (agB N Y) m = none then 1 else 0))), M) := by
  have hY0 : W 0 0 ≤ 12 := hW.1
  have h' := h
  obtain ⟨h60, _, _, hn, hN⟩ := h
  have eb := q_inB (show s < 4 by omega) (show 4 ≤ 100000 by omega)
  refine Eq.trans (le0 (fun n k => f286_6 z n (nI s) (nI (3 * k)) M) m z (agB N Y) (fun _ => some (some (.inl (nI 0)), M)) (some (some (.inl (nI 1)), M)) (by omega) (by
    intro n' k hk
    obtain ⟨t1, t2, t3, t4⟩ := tt_ok hW (fst_n hok k hk)
    rw [f286_6, if_pos eb, q_cl (by omega), hn, if_neg (show ¬ nI n ≤ nI (3 * k) by rw [q_le (by omega) (by omega)]; omega), g284 hs h' (show 3 * k < 60 by omega), cb_bl, n_1, q_add, g284 hs h' (show 3 * k + 1 < 60 by omega), cb_bl, t1, t3, lN_i, lN_i, g227 hW hR (by omega) t2 (by omega), cb_bi, n_2, q_add, g284 hs h' (show 3 * k + 2 < 60 by omega), cb_bl]
    by_cases q : lg_cmp (nI (Y (yy N k) (tt N k))).toInt64 (N (3 * k + 2)) = 0
    · rw [if_pos q, agB_f q, if_neg (by decide), n_3, q_add]
      rfl
    · rw [if_neg q, agB_t q, if_pos rfl]
      rfl) (by
    intro n'
    rw [f286_6, if_pos eb, q_cl (by omega), hn, if_pos (show nI n ≤ nI (3 * m) by rw [q_le (by omega) (by omega)]; omega)]
    rfl)) ?_
  cases fst (agB N Y) m <;> rfl
