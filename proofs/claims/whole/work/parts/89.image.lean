/-! ===== images ===== -/
def ln (r : Nat) : Nat := if r = 0 then 7 else if r ≤ 3 then 16 else if r ≤ 6 then 10 else if r = 7 then 16 else if r = 8 then 9 else if r = 9 then 1 else 30
def cpS (c0 c1 r0 : Nat) (M : aM) (o : Option aR) : Prop := ∃ M', o = some (none, M') ∧ Fx (fun a => c0 + r0 ≤ a ∧ a < c0 + 14) M M' ∧ ∀ r, r0 ≤ r → r < 14 → ∀ i, i < ln r → M'.1 (c0 + r) i = M.1 (c1 + r) i
theorem cpS.g {c0 c1 r0 : Nat} {M M1 : aM} {o : Option aR} (hd : c0 + 14 ≤ c1 ∨ c1 + 14 ≤ c0) (hr : r0 < 14) (h2 : M1.2 = M.2) (h1 : ∀ a, a ≠ c0 + r0 → M1.1 a = M.1 a) (h0 : ∀ i, i < ln r0 → M1.1 (c0 + r0) i = M.1 (c1 + r0) i) (h : cpS c0 c1 (r0 + 1) M1 o) : cpS c0 c1 r0 M o := by
  obtain ⟨M', e, f, g⟩ := h
  refine ⟨M', e, ⟨f.1.trans h2, fun a ha => ?_⟩, fun r hr1 hr2 i hi => ?_⟩
  · rw [f.2 a (by omega), h1 a (by omega)]
  · by_cases q : r = r0
    · rw [q, f.2 _ (by omega)]
      exact h0 i (q ▸ hi)
    · rw [g r (by omega) hr2 i hi, h1 _ (by omega)]
theorem cpS.st {c0 c1 r0 n : Nat} {M : aM} {o : Option aR} (hd : c0 + 14 ≤ c1 ∨ c1 + 14 ≤ c0) (hr : r0 < 14) (hn : n = ln r0) (h : cpS c0 c1 (r0 + 1) (am_ua M.1 (c0 + r0) (va_cpy (M.1 (c1 + r0)) (M.1 (c0 + r0)) 0 0 n), M.2) o) : cpS c0 c1 r0 M o := by
  refine cpS.g (M1 := (am_ua M.1 (c0 + r0) (va_cpy (M.1 (c1 + r0)) (M.1 (c0 + r0)) 0 0 n), M.2)) hd hr rfl (fun a ha => ua_row ha) (fun i hi => ?_) h
  show am_ua M.1 (c0 + r0) (va_cpy (M.1 (c1 + r0)) (M.1 (c0 + r0)) 0 0 n) (c0 + r0) i = _
  rw [ua_self]
  unfold va_cpy
  rw [if_pos (by omega), Nat.sub_zero, Nat.zero_add]
theorem z_0 : (0 : Int32).toNatClampNeg = 0 := by decide
theorem z_9 : (9 : Int32).toNatClampNeg = 9 := by decide
theorem z_10 : (10 : Int32).toNatClampNeg = 10 := by decide
theorem z_16 : (16 : Int32).toNatClampNeg = 16 := by decide
theorem z_30 : (30 : Int32).toNatClampNeg = 30 := by decide
theorem dp9 : am_cpOk (0 : Int32) (0 : Int32) (9 : Int32) 9 9 = true := by decide
theorem dp10 : am_cpOk (0 : Int32) (0 : Int32) (10 : Int32) 10 10 = true := by decide
theorem dp16 : am_cpOk (0 : Int32) (0 : Int32) (16 : Int32) 16 16 = true := by decide
theorem dp30 : am_cpOk (0 : Int32) (0 : Int32) (30 : Int32) 30 30 = true := by decide
theorem c_f2b {z c0 c1 : Nat} (hd : c0 + 14 ≤ c1 ∨ c1 + 14 ≤ c0) (M : aM) : cpS c0 c1 12 M (f2_38 z (c0 + 9) (c1 + 9) M) := by
  unfold f2_38 f2_68
  simp only [if_pos dp30, z_0, z_30]
  refine cpS.st (n := 30) hd (by omega) rfl (cpS.st (n := 30) hd (by omega) rfl ?_)
  exact ⟨_, rfl, Fx.id0, fun r h1 h2 => by omega⟩
theorem c_f2 {z c0 c1 : Nat} (hd : c0 + 14 ≤ c1 ∨ c1 + 14 ≤ c0) (M : aM) : cpS c0 c1 9 M (f2 z (c0 + 9) (c1 + 9) M) := by
  unfold f2
  simp only [if_pos dp30, z_0, z_30]
  refine cpS.g (M1 := (am_u M.1 (c0 + 9) 0 (M.1 (c1 + 9) 0), M.2)) hd (by omega) rfl (fun a ha => u_row ha) (fun i hi => ?_) (cpS.st (n := 30) hd (by omega) rfl (cpS.st (n := 30) hd (by omega) rfl ?_))
  · have : i = 0 := by have h : i < 1 := hi; omega
    subst this
    exact u_self
  · exact c_f2b hd _
theorem c_f6a {z c0 c1 : Nat} (hd : c0 + 14 ≤ c1 ∨ c1 + 14 ≤ c0) (M : aM) : cpS c0 c1 8 M (f6_161 z c0 c1 M) := by
  unfold f6_161
  simp only [if_pos dp9, z_0, z_9]
  refine cpS.st (n := 9) hd (by omega) rfl ?_
  obtain ⟨M', e, f⟩ := c_f2 (z := z) hd (am_ua M.1 (c0 + 8) (va_cpy (M.1 (c1 + 8)) (M.1 (c0 + 8)) 0 0 9), M.2)
  exact ⟨M', by rw [e, cb_bv], f⟩
theorem c_f6b {z c0 c1 : Nat} (hd : c0 + 14 ≤ c1 ∨ c1 + 14 ≤ c0) (M : aM) : cpS c0 c1 6 M (f6_131 z c0 c1 M) := by
  unfold f6_131
  simp only [if_pos dp10, if_pos dp16, z_0, z_10, z_16]
  exact cpS.st (n := 10) hd (by omega) rfl (cpS.st (n := 16) hd (by omega) rfl (c_f6a hd _))
theorem c_f6c {z c0 c1 : Nat} (hd : c0 + 14 ≤ c1 ∨ c1 + 14 ≤ c0) (M : aM) : cpS c0 c1 4 M (f6_101 z c0 c1 M) := by
  unfold f6_101
  simp only [if_pos dp10, z_0, z_10]
  exact cpS.st (n := 10) hd (by omega) rfl (cpS.st (n := 10) hd (by omega) rfl (c_f6b hd _))
theorem c_f6d {z c0 c1 : Nat} (hd : c0 + 14 ≤ c1 ∨ c1 + 14 ≤ c0) (M : aM) : cpS c0 c1 2 M (f6_71 z c0 c1 M) := by
  unfold f6_71
  simp only [if_pos dp16, z_0, z_16]
  exact cpS.st (n := 16) hd (by omega) rfl (cpS.st (n := 16) hd (by omega) rfl (c_f6c hd _))
/-- takeOver -/
theorem c_f6 {z c0 c1 : Nat} (hd : c0 + 14 ≤ c1 ∨ c1 + 14 ≤ c0) (M : aM) : cpS c0 c1 0 M (f6 z c0 c1 M) := by
  have hne : c1 ≠ c0 := by omega
  unfold f6 f6_32
  simp only [if_pos dp16, z_0, z_16, u_row hne]
  refine cpS.g (M1 := (am_u (am_u (am_u (am_u (am_u (am_u (am_u M.1 c0 0 (M.1 c1 0)) c0 1 (M.1 c1 1)) c0 2 (M.1 c1 2)) c0 3 (M.1 c1 3)) c0 4 (M.1 c1 4)) c0 5 (M.1 c1 5)) c0 6 (M.1 c1 6), M.2)) hd (by omega) rfl (fun a ha => ?_) (fun i hi => ?_) (cpS.st (n := 16) hd (by omega) rfl (c_f6d hd _))
  · have ha' : a ≠ c0 := ha
    simp only [u_row ha']
  · have hi7 : i < 7 := hi
    show am_u (am_u (am_u (am_u (am_u (am_u (am_u M.1 c0 0 (M.1 c1 0)) c0 1 (M.1 c1 1)) c0 2 (M.1 c1 2)) c0 3 (M.1 c1 3)) c0 4 (M.1 c1 4)) c0 5 (M.1 c1 5)) c0 6 (M.1 c1 6) c0 i = M.1 c1 i
    rcases (show i = 0 ∨ i = 1 ∨ i = 2 ∨ i = 3 ∨ i = 4 ∨ i = 5 ∨ i = 6 by omega) with rfl | rfl | rfl | rfl | rfl | rfl | rfl <;> simp (disch := omega) only [u_ne, u_self]
theorem rC.cp {c0 c1 : Nat} {M M' : aM} {W : cW} (hW : wf W) (h : rC M c1 W) (g : ∀ r, 0 ≤ r → r < 14 → ∀ i, i < ln r → M'.1 (c0 + r) i = M.1 (c1 + r) i) : rC M' c0 W := by
  have hN4 : W 0 4 ≤ 16 := hW.2.2.2.2.1
  have hN5 : W 0 5 ≤ 10 := hW.2.2.2.2.2.1
  have hN6 : W 0 6 ≤ 30 := hW.2.2.2.2.2.2.1
  have g0 : ∀ i, i < 7 → M'.1 c0 i = M.1 c1 i := fun i hi => g 0 (by omega) (by omega) i hi
  obtain ⟨⟨a0, a1, a2, a3, a4, a5, a6⟩, b, c, d, e, f, k⟩ := h
  refine ⟨⟨?_, ?_, ?_, ?_, ?_, ?_, ?_⟩, ?_, ?_, ?_, ?_, ?_, ?_⟩
  · rw [g0 0 (by omega)]; exact a0
  · rw [g0 1 (by omega)]; exact a1
  · rw [g0 2 (by omega)]; exact a2
  · rw [g0 3 (by omega)]; exact a3
  · rw [g0 4 (by omega)]; exact a4
  · rw [g0 5 (by omega)]; exact a5
  · rw [g0 6 (by omega)]; exact a6
  · intro t ht
    rw [g 1 (by omega) (by omega) t (show t < 16 by omega), g 2 (by omega) (by omega) t (show t < 16 by omega), g 3 (by omega) (by omega) t (show t < 16 by omega)]
    exact b t ht
  · intro q hq
    rw [g 4 (by omega) (by omega) q (show q < 10 by omega), g 5 (by omega) (by omega) q (show q < 10 by omega), g 6 (by omega) (by omega) q (show q < 10 by omega)]
    exact c q hq
  · intro j hj
    rw [g 8 (by omega) (by omega) j (show j < 9 by omega)]
    exact d j hj
  · intro j i hj hi
    have hbl := bg_le W (j + 1)
    rw [bg_s] at hbl
    rw [g 7 (by omega) (by omega) _ (show bg W j + i < 16 by omega)]
    exact e j i hj hi
  · rw [g 9 (by omega) (by omega) 0 (show 0 < 1 by omega)]
    exact f
  · intro i hi
    rw [g 10 (by omega) (by omega) i (show i < 30 by omega), g 11 (by omega) (by omega) i (show i < 30 by omega), g 12 (by omega) (by omega) i (show i < 30 by omega), g 13 (by omega) (by omega) i (show i < 30 by omega)]
    exact k i hi
theorem rM.cp {g g' : Nat → Int32} {W : cW} (hW : wf W) (h : rM g W) (he : ∀ i, i < 116 → g' i = g i) : rM g' W := by
  have hN4 : W 0 4 ≤ 16 := hW.2.2.2.2.1
  have hN5 : W 0 5 ≤ 10 := hW.2.2.2.2.2.1
  have hN6 : W 0 6 ≤ 30 := hW.2.2.2.2.2.2.1
  obtain ⟨a, b, c, d⟩ := h
  refine ⟨?_, fun t ht => ?_, fun q hq => ?_, fun i hi => ?_⟩
  · rw [he 0 (by omega), he 1 (by omega), he 2 (by omega), he 3 (by omega), he 4 (by omega), he 5 (by omega), he 6 (by omega), he 7 (by omega)]
    exact a
  · rw [he _ (by omega), he _ (by omega), he _ (by omega)]; exact b t ht
  · rw [he _ (by omega), he _ (by omega), he _ (by omega)]; exact c q hq
  · rw [he _ (by omega)]; exact d i hi
theorem m_f173 {z : Nat} (hz : 2000 ≤ z) {k : Nat} (hk : k < 3) (M : aM) : ∃ M', f173_17 z z (nI k) (nI 0) M = some (some (.inl (nI 0)), M') ∧ Fx (fun a => a = 207 ∨ a = 208) M M' ∧ (∀ i, i < 116 → M'.1 207 (116 * k + i) = M.1 206 i) ∧ (∀ j, ¬ (116 * k ≤ j ∧ j < 116 * k + 116) → M'.1 207 j = M.1 207 j) ∧ M'.1 208 k = nI 1 ∧ ∀ j, j ≠ k → M'.1 208 j = M.1 208 j := by
  obtain ⟨n, M', e, hF, hG, hI⟩ := lr0 (fun n i M' => f173_17 z n (nI k) (nI i) M') 116 (fun t M' => Fx (fun a => a = 207) M M' ∧ (∀ i, i < t → M'.1 207 (116 * k + i) = M.1 206 i) ∧ (∀ j, ¬ (116 * k ≤ j ∧ j < 116 * k + 116) → M'.1 207 j = M.1 207 j)) z M (by omega) ⟨Fx.id0, fun t ht => by omega, fun _ _ => rfl⟩ (by
    intro n t M' ht hI
    refine ⟨(am_u M'.1 207 (116 * k + t) (M'.1 206 t), M'.2), ?_, Fx.w hI.1 rfl, ?_, ?_⟩
    · rw [f173_17]
      simp (disch := omega) only [n_0, n_1, n_2, n_3, n_4, n_5, n_6, n_7, n_8, n_9, n_10, n_12, n_13, n_16, n_30, n_60, n_61, n_86, n_99, n_100, n_200, n_201, n_1023, n_65535, n_10000, n_1000000, ↓q_m1, ↓q_m2, ↓q_m3, ↓q_m4, ↓q_m5, ↓q_m6, ↓q_m7, ↓q_m8, ↓q_m1000, ↓q_m100000, q_add, q_addm, q_inB, q_cl, q_le, q_lt, q_eq, q_eqm, q_meq, q_mltT, q_ltm, q_lem, q_mleT, if_true, if_false, if_pos, if_neg, Nat.reduceAdd, Nat.reduceMul, Nat.add_zero, Nat.zero_add, Nat.one_mul, not_true_eq_false, not_false_eq_true, u_row, u_self, u_ne, cb_bi, cb_bv, cb_bl, q_mul, n_116]
    · intro u hu
      show am_u M'.1 207 _ _ 207 (116 * k + u) = _
      by_cases q : u = t
      · rw [q, u_self, hI.1.2 206 (by omega)]
      · rw [u_ne (by omega)]
        exact hI.2.1 u (by omega)
    · intro p hp
      show am_u M'.1 207 _ _ 207 p = _
      rw [u_ne (by omega)]
      exact hI.2.2 p hp)
  refine ⟨(am_u M'.1 208 k (nI 1), M'.2), ?_, Fx.w (hF.mono (fun a q => Or.inl q)) (Or.inr rfl), fun i hi => ?_, fun j hj => ?_, u_self, fun j hj => ?_⟩
  · rw [e, f173_17, n_116, if_pos (show nI 116 ≤ nI 116 by decide), if_pos (q_inB hk (by omega)), q_cl (by omega)]
    rfl
  · show am_u M'.1 208 k (nI 1) 207 _ = _
    rw [u_row (by omega)]; exact hG i hi
  · show am_u M'.1 208 k (nI 1) 207 _ = _
    rw [u_row (by omega)]; exact hI j hj
  · show am_u M'.1 208 k (nI 1) 208 j = _
    rw [u_ne hj, hF.2 208 (by omega)]
theorem m_f174 {z : Nat} (hz : 2000 ≤ z) {k : Nat} (hk : k < 3) (M : aM) : ∃ M', f174_29 z z (nI k) (nI 0) M = some (some (.inl (nI 0)), M') ∧ Fx (fun a => a = 206) M M' ∧ (∀ i, i < 116 → M'.1 206 i = M.1 207 (116 * k + i)) := by
  obtain ⟨n, M', e, hF, hG⟩ := lr0 (fun n i M' => f174_29 z n (nI k) (nI i) M') 116 (fun t M' => Fx (fun a => a = 206) M M' ∧ (∀ i, i < t → M'.1 206 i = M.1 207 (116 * k + i))) z M (by omega) ⟨Fx.id0, fun t ht => by omega⟩ (by
    intro n t M' ht hI
    refine ⟨(am_u M'.1 206 t (M'.1 207 (116 * k + t)), M'.2), ?_, Fx.w hI.1 rfl, ?_⟩
    · rw [f174_29]
      simp (disch := omega) only [n_0, n_1, n_2, n_3, n_4, n_5, n_6, n_7, n_8, n_9, n_10, n_12, n_13, n_16, n_30, n_60, n_61, n_86, n_99, n_100, n_200, n_201, n_1023, n_65535, n_10000, n_1000000, ↓q_m1, ↓q_m2, ↓q_m3, ↓q_m4, ↓q_m5, ↓q_m6, ↓q_m7, ↓q_m8, ↓q_m1000, ↓q_m100000, q_add, q_addm, q_inB, q_cl, q_le, q_lt, q_eq, q_eqm, q_meq, q_mltT, q_ltm, q_lem, q_mleT, if_true, if_false, if_pos, if_neg, Nat.reduceAdd, Nat.reduceMul, Nat.add_zero, Nat.zero_add, Nat.one_mul, not_true_eq_false, not_false_eq_true, u_row, u_self, u_ne, cb_bi, cb_bv, cb_bl, q_mul, n_116]
    · intro u hu
      show am_u M'.1 206 _ _ 206 u = _
      by_cases q : u = t
      · rw [q, u_self, hI.1.2 207 (by omega)]
      · rw [u_ne (by omega)]
        exact hI.2 u (by omega))
  refine ⟨M', ?_, hF, hG⟩
  rw [e, f174_29, n_116, if_pos (show nI 116 ≤ nI 116 by decide)]
  rfl
theorem k2t {z : Nat} {M : aM} {w : Nat} (h : w < 3) : f165 z (nI w) (0 : Int32) (2 : Int32) M = some (some (.inl (nI 1)), M) := k165t (lo := 0) (hi := 2) (by omega) (by omega) (by omega)
theorem k2f {z : Nat} {M : aM} {x : Int32} (h : ¬ okN 3 x) : f165 z x (0 : Int32) (2 : Int32) M = some (some (.inl (nI 0)), M) := k165f (lo := 0) (hi := 2) (fun q => by obtain ⟨n, _, hn, e⟩ := q; exact h ⟨n, by omega, e⟩) (by omega) (by omega)
theorem P_image {z : Nat} (hz : 2000 ≤ z) {M : aM} {W : cW} (h : RW M W) (x : Int32) : PR (f162 z x M) (f173 z x) := by
  by_cases o : okN 3 x
  · obtain ⟨k, hk, rfl⟩ := o
    obtain ⟨M0, a1, a2, a3⟩ := c_f6 (z := z) (c0 := 163 + 14 * k) (c1 := 18) (by omega) M
    obtain ⟨M2, b1, b2, b3, b4, b5, b6⟩ := m_f173 hz hk ((am_u M0.1 154 k (nI 1), M0.2) : aM)
    have r : ∀ a, a ≠ 154 → a ≠ 207 → a ≠ 208 → ¬ (163 + 14 * k ≤ a ∧ a < 163 + 14 * k + 14) → M2.1 a = M.1 a := fun a x1 x2 x3 x4 => by
      rw [b2.2 a (by omega)]
      show am_u M0.1 154 k (nI 1) a = _
      rw [u_row x1, a2.2 a (by omega)]
    have r0 : ∀ a, 163 + 14 * k ≤ a → a < 163 + 14 * k + 14 → M2.1 a = M0.1 a := fun a x1 x2 => by
      rw [b2.2 a (by omega)]
      show am_u M0.1 154 k (nI 1) a = _
      rw [u_row (by omega)]
    have r54 : ∀ j, M2.1 154 j = if j = k then nI 1 else M.1 154 j := fun j => by
      rw [b2.2 154 (by omega)]
      show am_u M0.1 154 k (nI 1) 154 j = _
      rw [u_at, a2.2 154 (by omega)]
    have e7 : ∀ a, a = 206 ∨ a = 207 ∨ a = 208 → am_u M0.1 154 k (nI 1) a = M.1 a := fun a x => by rw [u_row (by omega), a2.2 a (by omega)]
    have l2 : M2.2 = M.2 := by rw [b2.1]; exact a2.1
    refine ⟨nI 0, (am_u M0.1 154 k (nI 1), M0.2), M2, ?_, ?_, W, h.ch (fun a q => r a (by omega) (by omega) (by omega) (by omega)) (by rw [r 205 (by omega) (by omega) (by omega) (by omega)]; exact ⟨rfl, rfl⟩) ?_ (h.s.of (fun a x1 x2 => ⟨r a (by omega) (by omega) (by omega) (by omega), by rw [l2]⟩) (r 229 (by omega) (by omega) (by omega) (by omega)) (r 230 (by omega) (by omega) (by omega) (by omega)) (by rw [l2])) ?_⟩
    · unfold f162
      rw [k2t hk, cb_bi, i1n, if_pos (q_inB hk (by omega)), q_cl (by omega), show 153 + (10 + 14 * k) = 163 + 14 * k by omega, a1, cb_bv, if_pos (q_inB hk (by omega))]
      rfl
    · unfold f173
      rw [k170t 2 L2 (by omega) (show k ≤ 2 by omega), cb_bi, i1n, n_0]
      exact b1
    · intro j hj
      by_cases e : j = k
      · refine .inr ⟨by rw [r54, if_pos e], by rw [e]; exact b5, W, h.w, ?_, ?_⟩
        · rw [e]
          exact (rC.cp h.w h.c a3).of (fun a x1 x2 => r0 a x1 x2)
        · refine h.m.cp h.w (fun i hi => ?_)
          show M2.1 207 (116 * j + i) = _
          rw [e, b3 i hi]
          show am_u M0.1 154 k (nI 1) 206 i = _
          rw [e7 206 (by omega)]
      · have e8 : M2.1 208 j = M.1 208 j := by rw [b6 j e]; show am_u M0.1 154 k (nI 1) 208 j = _; rw [e7 208 (by omega)]
        rw [r54, if_neg e, e8]
        rcases h.i j hj with q | ⟨q1, q2, W', q3, q4, q5⟩
        · exact .inl q
        · refine .inr ⟨q1, q2, W', q3, q4.of (fun a x1 x2 => r a (by omega) (by omega) (by omega) (by omega)), q5.cp q3 (fun i hi => ?_)⟩
          show M2.1 207 (116 * j + i) = M.1 207 (116 * j + i)
          rw [b4 _ (by omega)]
          show am_u M0.1 154 k (nI 1) 207 _ = _
          rw [e7 207 (by omega)]
    · obtain ⟨n, k1, k2, k3, k4⟩ := h.t
      refine ⟨n, k1, ?_, ?_, fun i hi => ?_⟩
      · rw [r 2 (by omega) (by omega) (by omega) (by omega)]; exact k2
      · rw [r 205 (by omega) (by omega) (by omega) (by omega)]; exact k3
      · rw [r 3 (by omega) (by omega) (by omega) (by omega), r 209 (by omega) (by omega) (by omega) (by omega)]; exact k4 i hi
  · refine PR.r (M := M) (v := -2) (M1 := M) ?_ h ⟨M, ?_, kR.id0⟩
    · unfold f162
      rw [k2f o, cb_bi, i0n]
    · unfold f173
      rw [k170f 2 L2 (by omega) o, cb_bi, i0n]
theorem P_back {z : Nat} (hz : 2000 ≤ z) {M : aM} {W : cW} (h : RW M W) (x : Int32) : PR (f163 z x M) (f174 z x) := by
  by_cases o : okN 3 x
  · obtain ⟨k, hk, rfl⟩ := o
    rcases h.i k hk with ⟨q1, q2⟩ | ⟨q1, q2, W', q3, q4, q5⟩
    · refine PR.r (M := M) (v := -6) (M1 := M) ?_ h ⟨M, ?_, kR.id0⟩
      · unfold f163
        rw [k2t hk, cb_bi, i1n, if_pos (q_inB hk (by omega)), q_cl (by omega), q1, i0n]
      · unfold f174
        rw [k170t 2 L2 (by omega) (show k ≤ 2 by omega), cb_bi, i1n, if_pos (q_inB hk (by omega)), q_cl (by omega), q2, i0n]
    · obtain ⟨M0, a1, a2, a3⟩ := c_f6 (z := z) (c0 := 18) (c1 := 163 + 14 * k) (by omega) M
      have hC := rC.cp q3 q4 a3
      obtain ⟨M1, c1, c2, c3, c4, c5⟩ := c_refresh hz q3 hC
      obtain ⟨M2, b1, b2, b3⟩ := m_f174 hz hk M1
      have hx : kX M M2 := ((kX.fx a2 (fun a q => by omega)).trans (kX.rf c2)).trans (kX.fx b2 (fun a q => by omega))
      have e7 : M1.1 207 = M.1 207 := by rw [c2.2 207 (by unfold rfS; omega), a2.2 207 (by omega)]
      have e8 : M1.1 208 k = nI 1 := by rw [c2.2 208 (by unfold rfS; omega), a2.2 208 (by omega)]; exact q2
      refine ⟨nI 0, M1, M2, ?_, ?_, W', q3, c3.of (fun a x1 x2 => b2.2 a (by omega)), q5.cp q3 (fun i hi => ?_), c4.of q3 q3.1 (fun a x1 x2 => b2.2 a (by omega)), c5.of (b2.2 113 (by omega)) (b2.2 114 (by omega)) (b2.2 115 (by omega)), h.x.k hx⟩
      · unfold f163
        rw [k2t hk, cb_bi, i1n, if_pos (q_inB hk (by omega)), q_cl (by omega), q1, i1n, if_pos (q_inB hk (by omega)), show 153 + (10 + 14 * k) = 163 + 14 * k by omega, a1, cb_bv, c1, cb_bv]
        rfl
      · unfold f174
        rw [k170t 2 L2 (by omega) (show k ≤ 2 by omega), cb_bi, i1n, if_pos (q_inB hk (by omega)), q_cl (by omega), e8, i1n, n_0]
        exact b1
      · rw [b3 i hi, e7]
  · refine PR.r (M := M) (v := -2) (M1 := M) ?_ h ⟨M, ?_, kR.id0⟩
    · unfold f163
      rw [k2f o, cb_bi, i0n]
    · unfold f174
      rw [k170f 2 L2 (by omega) o, cb_bi, i0n]
