/-! ===== the model: a claim shares, a pull, a quarrel ===== -/
def mX (M : aM) (X : cX) : Prop := (∀ t, t < 16 → M.1 214 t = nI (X.1 t)) ∧ (∀ c, c < 8 → M.1 215 c = nI (X.2.1 c)) ∧ M.1 205 22 = nI X.2.2.1 ∧ M.1 205 23 = nI X.2.2.2
def mS (a : Nat) : Prop := a = 205 ∨ a = 214 ∨ a = 215
def mK (M M' : aM) : Prop := Fx mS M M' ∧ ∀ j, j ≠ 22 → j ≠ 23 → M'.1 205 j = M.1 205 j
theorem mK.id0 {M : aM} : mK M M := ⟨Fx.id0, fun _ _ _ => rfl⟩
theorem mK.trans {M M' M'' : aM} (h : mK M M') (h' : mK M' M'') : mK M M'' := ⟨h.1.trans h'.1, fun j a b => (h'.2 j a b).trans (h.2 j a b)⟩
theorem mK.r206 {M M' : aM} (h : mK M M') : M'.1 206 = M.1 206 := h.1.2 206 (by unfold mS; omega)
theorem mK.r213 {M M' : aM} (h : mK M M') : M'.1 213 = M.1 213 := h.1.2 213 (by unfold mS; omega)
theorem mK.i16 {M M' : aM} (h : mK M M') : M'.1 205 16 = M.1 205 16 := h.2 16 (by omega) (by omega)
theorem mK.of214 {M M' : aM} (h : Fx (fun a => a = 214) M M') : mK M M' := ⟨h.mono (fun a q => .inr (.inl q)), fun j _ _ => by rw [h.2 205 (by decide)]⟩
/-- the shares go on -/
theorem m_pass {z : Nat} (hz : 2000 ≤ z) {M : aM} {W : cW} (h : rM (M.1 206) W) (hW : wf W) {s : Nat → Nat} (hs : ∀ t, t < W 0 4 → M.1 213 t = nI (s t)) (hb : ∀ t, s t ≤ 1000) {c : Nat} (hc : c < 8) {g ld : Nat → Nat} {lost hem : Nat} (hX : mX M (g, ld, lost, hem)) :
    ∃ M', f217_139 z z (nI c) (nI 0) M = some (none, M') ∧ mK M M' ∧ mX M' (g, ((thr W c).foldl (ps W s g) (ld, hem)).1, lost, ((thr W c).foldl (ps W s g) (ld, hem)).2) := by
  have hT : W 0 4 ≤ 16 := hW.2.2.2.2.1
  have hC8 : W 0 3 ≤ 8 := hW.2.2.2.1
  refine lk0 (L := fun n k M' => f217_139 z n (nI c) (nI k) M') (N := W 0 4) (Inv := fun k M' => mK M M' ∧ mX M' (g, ((thT W c k).foldl (ps W s g) (ld, hem)).1, lost, ((thT W c k).foldl (ps W s g) (ld, hem)).2)) (P := fun o => ∃ M', o = some (none, M') ∧ mK M M' ∧ mX M' (g, ((thr W c).foldl (ps W s g) (ld, hem)).1, lost, ((thr W c).foldl (ps W s g) (ld, hem)).2)) z M (by omega) ⟨mK.id0, hX⟩ ?_ ?_
  · intro n k M' hk hI
    obtain ⟨hK, hX1, hX2, hX3, hX4⟩ := hI
    have h' : rM (M'.1 206) W := by rw [hK.r206]; exact h
    have hs' : ∀ t, t < W 0 4 → M'.1 213 t = nI (s t) := by rw [hK.r213]; exact hs
    have hto := (hW.2.2.2.2.2.2.2.2.1 k hk)
    simp only [fo_thT]
    rw [f217_139, g178 h', cb_bi]
    simp (disch := omega) only [n_0, n_1, n_2, n_3, n_4, n_5, n_6, n_7, n_8, n_9, n_10, n_12, n_13, n_16, n_30, n_60, n_61, n_86, n_99, n_100, n_200, n_201, n_1023, n_65535, n_10000, n_1000000, ↓q_m1, q_add, q_addm, q_inB, q_cl, q_le, q_lt, q_eq, q_eqm, q_meq, q_mltT, q_ltm, q_lem, q_mleT, if_true, if_false, if_pos, if_neg, Nat.reduceAdd, Nat.reduceMul, Nat.add_zero, Nat.zero_add, not_true_eq_false, not_false_eq_true, u_row, u_self, u_ne, cb_bi, cb_bv, cb_bl]
    rw [g212 h' hW hs' hb hk hc, cb_bi]
    generalize (thT W c k).foldl (ps W s g) (ld, hem) = p at *
    by_cases h1 : W 1 k = c ∧ 0 < s k
    · simp only [if_pos h1, if_pos h1.1, ps, if_pos h1.2]
      simp (disch := omega) only [n_0, n_1, n_2, n_3, n_4, n_5, n_6, n_7, n_8, n_9, n_10, n_12, n_13, n_16, n_30, n_60, n_61, n_86, n_99, n_100, n_200, n_201, n_1023, n_65535, n_10000, n_1000000, ↓q_m1, q_add, q_addm, q_inB, q_cl, q_le, q_lt, q_eq, q_eqm, q_meq, q_mltT, q_ltm, q_lem, q_mleT, if_true, if_false, if_pos, if_neg, Nat.reduceAdd, Nat.reduceMul, Nat.add_zero, Nat.zero_add, not_true_eq_false, not_false_eq_true, u_row, u_self, u_ne, cb_bi, cb_bv, cb_bl]
      rw [g186 h' hW hk, cb_bi]
      by_cases h8 : W 2 k = 8
      · simp (disch := omega) only [n_0, n_1, n_2, n_3, n_4, n_5, n_6, n_7, n_8, n_9, n_10, n_12, n_13, n_16, n_30, n_60, n_61, n_86, n_99, n_100, n_200, n_201, n_1023, n_65535, n_10000, n_1000000, ↓q_m1, q_add, q_addm, q_inB, q_cl, q_le, q_lt, q_eq, q_eqm, q_meq, q_mltT, q_ltm, q_lem, q_mleT, if_true, if_false, if_pos, if_neg, Nat.reduceAdd, Nat.reduceMul, Nat.add_zero, Nat.zero_add, not_true_eq_false, not_false_eq_true, u_row, u_self, u_ne, cb_bi, cb_bv, cb_bl, h8, hI_8, hX1, hX4, ne_eq]
        refine Lst.go ⟨⟨Fx.w hK.1 (.inl rfl), ?_⟩, ?_, ?_, ?_, ?_⟩
        · intro j j1 j2
          simp (disch := omega) only [u_ne]
          exact hK.2 j j1 j2
        · simp (disch := omega) only [u_row]
          exact hX1
        · simp (disch := omega) only [u_row]
          exact hX2
        · simp (disch := omega) only [u_ne]
          exact hX3
        · simp only [u_self]
      · have e8 := hI_n h8
        simp (disch := omega) only [n_0, n_1, n_2, n_3, n_4, n_5, n_6, n_7, n_8, n_9, n_10, n_12, n_13, n_16, n_30, n_60, n_61, n_86, n_99, n_100, n_200, n_201, n_1023, n_65535, n_10000, n_1000000, ↓q_m1, q_add, q_addm, q_inB, q_cl, q_le, q_lt, q_eq, q_eqm, q_meq, q_mltT, q_ltm, q_lem, q_mleT, if_true, if_false, if_pos, if_neg, Nat.reduceAdd, Nat.reduceMul, Nat.add_zero, Nat.zero_add, not_true_eq_false, not_false_eq_true, u_row, u_self, u_ne, cb_bi, cb_bv, cb_bl, e8, hX1, hX2, g186 h' hW hk]
        refine Lst.go ⟨⟨Fx.w hK.1 (.inr (.inr rfl)), ?_⟩, ?_, ?_, ?_, ?_⟩
        · intro j j1 j2
          simp (disch := omega) only [u_row]
          exact hK.2 j j1 j2
        · simp (disch := omega) only [u_row]
          exact hX1
        · exact row_up hX2
        · simp (disch := omega) only [u_row]
          exact hX3
        · simp (disch := omega) only [u_row]
          exact hX4
    · have e3 : (if W 1 k = c then ps W s g p k else p) = p := by
        split
        · rename_i q1
          exact if_neg (fun q => h1 ⟨q1, q⟩)
        · rfl
      simp only [e3, if_neg h1]
      simp (disch := omega) only [n_0, n_1, n_2, n_3, n_4, n_5, n_6, n_7, n_8, n_9, n_10, n_12, n_13, n_16, n_30, n_60, n_61, n_86, n_99, n_100, n_200, n_201, n_1023, n_65535, n_10000, n_1000000, ↓q_m1, q_add, q_addm, q_inB, q_cl, q_le, q_lt, q_eq, q_eqm, q_meq, q_mltT, q_ltm, q_lem, q_mleT, if_true, if_false, if_pos, if_neg, Nat.reduceAdd, Nat.reduceMul, Nat.add_zero, Nat.zero_add, not_true_eq_false, not_false_eq_true, u_row, u_self, u_ne, cb_bi, cb_bv, cb_bl]
      exact Lst.go ⟨hK, hX1, hX2, hX3, hX4⟩
  · intro n M' hI
    have h' : rM (M'.1 206) W := by rw [hI.1.r206]; exact h
    refine ⟨M', ?_, hI⟩
    rw [f217_139, g178 h', cb_bi]
    simp (disch := omega) only [n_0, n_1, n_2, n_3, n_4, n_5, n_6, n_7, n_8, n_9, n_10, n_12, n_13, n_16, n_30, n_60, n_61, n_86, n_99, n_100, n_200, n_201, n_1023, n_65535, n_10000, n_1000000, ↓q_m1, q_add, q_addm, q_inB, q_cl, q_le, q_lt, q_eq, q_eqm, q_meq, q_mltT, q_ltm, q_lem, q_mleT, if_true, if_false, if_pos, if_neg, Nat.reduceAdd, Nat.reduceMul, Nat.add_zero, Nat.zero_add, not_true_eq_false, not_false_eq_true, u_row, u_self, u_ne, cb_bi, cb_bv, cb_bl]
/-- shareOut -/
theorem m_shareOut {z : Nat} (hz : 2000 ≤ z) {M : aM} {W : cW} (h : rM (M.1 206) W) (hW : wf W) {s : Nat → Nat} (hs : ∀ t, t < W 0 4 → M.1 213 t = nI (s t)) (hb : ∀ t, s t ≤ 1000) {c law n0 : Nat} (hc : c < 8) (hl : M.1 205 16 = nI law) (hl3 : law ≤ 3) {X : cX} (hX : mX M X) (hi : ix W s n0 (c + 1) X) (hn0 : n0 ≤ 200) :
    ∃ M', f217 z (nI c) M = some (none, M') ∧ mK M M' ∧ mX M' (dv W law s c X) := by
  have hT : W 0 4 ≤ 16 := hW.2.2.2.2.1
  have hLn : X.2.1 c ≤ 200 := by
    have h1 : sm X.2.1 c + X.2.1 c + X.2.2.1 + X.2.2.2 = n0 := hi.1
    omega
  have hwl : nW s (thr W c) ≤ 16 := Nat.le_trans (nW_le s _) (thr_len hW c)
  obtain ⟨hX1, hX2, hX3, hX4⟩ := hX
  unfold f217
  simp (disch := omega) only [n_0, n_1, n_2, n_3, n_4, n_5, n_6, n_7, n_8, n_9, n_10, n_12, n_13, n_16, n_30, n_60, n_61, n_86, n_99, n_100, n_200, n_201, n_1023, n_65535, n_10000, n_1000000, ↓q_m1, q_add, q_addm, q_inB, q_cl, q_le, q_lt, q_eq, q_eqm, q_meq, q_mltT, q_ltm, q_lem, q_mleT, if_true, if_false, if_pos, if_neg, Nat.reduceAdd, Nat.reduceMul, Nat.add_zero, Nat.zero_add, not_true_eq_false, not_false_eq_true, u_row, u_self, u_ne, cb_bi, cb_bv, cb_bl, hX2]
  have key : f217_12 z z (nI c) (nI (X.2.1 c)) (nI 0) (nI 0) M = f217_12 z (z - W 0 4) (nI c) (nI (X.2.1 c)) (nI (nW s (thr W c))) (nI (W 0 4)) M := by
    have : ∀ m k n, k + m = W 0 4 → m < n → f217_12 z n (nI c) (nI (X.2.1 c)) (nI (nW s (thT W c k))) (nI k) M = f217_12 z (n - m) (nI c) (nI (X.2.1 c)) (nI (nW s (thr W c))) (nI (W 0 4)) M := by
      intro m
      induction m with
      | zero =>
        intro k n hk hn
        have e : k = W 0 4 := by omega
        subst e
        rfl
      | succ m ih =>
        intro k n hk hn
        obtain ⟨n, rfl⟩ : ∃ n', n = n' + 1 := ⟨n - 1, by omega⟩
        have ih' := ih (k + 1) n (by omega) (by omega)
        rw [show n + 1 - (m + 1) = n - m by omega, ← ih']
        have e : nW s (thT W c (k + 1)) = nW s (thT W c k) + (if W 1 k = c ∧ 0 < s k then 1 else 0) := ws_thT W s _ c k
        rw [f217_12, g178 h, cb_bi]
        simp (disch := omega) only [n_0, n_1, n_2, n_3, n_4, n_5, n_6, n_7, n_8, n_9, n_10, n_12, n_13, n_16, n_30, n_60, n_61, n_86, n_99, n_100, n_200, n_201, n_1023, n_65535, n_10000, n_1000000, ↓q_m1, q_add, q_addm, q_inB, q_cl, q_le, q_lt, q_eq, q_eqm, q_meq, q_mltT, q_ltm, q_lem, q_mleT, if_true, if_false, if_pos, if_neg, Nat.reduceAdd, Nat.reduceMul, Nat.add_zero, Nat.zero_add, not_true_eq_false, not_false_eq_true, u_row, u_self, u_ne, cb_bi, cb_bv, cb_bl]
        rw [g212 h hW hs hb (by omega) hc, cb_bi, e]
        by_cases h1 : W 1 k = c ∧ 0 < s k
        · simp (disch := omega) only [n_0, n_1, n_2, n_3, n_4, n_5, n_6, n_7, n_8, n_9, n_10, n_12, n_13, n_16, n_30, n_60, n_61, n_86, n_99, n_100, n_200, n_201, n_1023, n_65535, n_10000, n_1000000, ↓q_m1, q_add, q_addm, q_inB, q_cl, q_le, q_lt, q_eq, q_eqm, q_meq, q_mltT, q_ltm, q_lem, q_mleT, if_true, if_false, if_pos, if_neg, Nat.reduceAdd, Nat.reduceMul, Nat.add_zero, Nat.zero_add, not_true_eq_false, not_false_eq_true, u_row, u_self, u_ne, cb_bi, cb_bv, cb_bl, if_pos h1]
        · simp (disch := omega) only [n_0, n_1, n_2, n_3, n_4, n_5, n_6, n_7, n_8, n_9, n_10, n_12, n_13, n_16, n_30, n_60, n_61, n_86, n_99, n_100, n_200, n_201, n_1023, n_65535, n_10000, n_1000000, ↓q_m1, q_add, q_addm, q_inB, q_cl, q_le, q_lt, q_eq, q_eqm, q_meq, q_mltT, q_ltm, q_lem, q_mleT, if_true, if_false, if_pos, if_neg, Nat.reduceAdd, Nat.reduceMul, Nat.add_zero, Nat.zero_add, not_true_eq_false, not_false_eq_true, u_row, u_self, u_ne, cb_bi, cb_bv, cb_bl, if_neg h1]
    exact this (W 0 4) 0 z (by omega) (by omega)
  rw [key]
  obtain ⟨n, hn⟩ : ∃ n', z - W 0 4 = n' + 1 := ⟨z - W 0 4 - 1, by omega⟩
  rw [hn, f217_12, g178 h, cb_bi]
  unfold dv
  by_cases hL0 : X.2.1 c = 0
  · simp (disch := omega) only [n_0, n_1, n_2, n_3, n_4, n_5, n_6, n_7, n_8, n_9, n_10, n_12, n_13, n_16, n_30, n_60, n_61, n_86, n_99, n_100, n_200, n_201, n_1023, n_65535, n_10000, n_1000000, ↓q_m1, q_add, q_addm, q_inB, q_cl, q_le, q_lt, q_eq, q_eqm, q_meq, q_mltT, q_ltm, q_lem, q_mleT, if_true, if_false, if_pos, if_neg, Nat.reduceAdd, Nat.reduceMul, Nat.add_zero, Nat.zero_add, not_true_eq_false, not_false_eq_true, u_row, u_self, u_ne, cb_bi, cb_bv, cb_bl, hL0]
    exact ⟨M, rfl, mK.id0, hX1, hX2, hX3, hX4⟩
  · by_cases hw : nW s (thr W c) = 0
    · simp (disch := omega) only [n_0, n_1, n_2, n_3, n_4, n_5, n_6, n_7, n_8, n_9, n_10, n_12, n_13, n_16, n_30, n_60, n_61, n_86, n_99, n_100, n_200, n_201, n_1023, n_65535, n_10000, n_1000000, ↓q_m1, q_add, q_addm, q_inB, q_cl, q_le, q_lt, q_eq, q_eqm, q_meq, q_mltT, q_ltm, q_lem, q_mleT, if_true, if_false, if_pos, if_neg, Nat.reduceAdd, Nat.reduceMul, Nat.add_zero, Nat.zero_add, not_true_eq_false, not_false_eq_true, u_row, u_self, u_ne, cb_bi, cb_bv, cb_bl, if_neg hL0, hw, hX3, ne_eq]
      refine ⟨_, rfl, ⟨Fx.w Fx.id0 (.inl rfl), ?_⟩, ?_, ?_, ?_, ?_⟩
      · intro j j1 j2
        simp (disch := omega) only [u_ne]
      · simp (disch := omega) only [u_row]
        exact hX1
      · simp (disch := omega) only [u_row]
        exact hX2
      · simp only [u_self]
      · simp (disch := omega) only [u_ne]
        exact hX4
    · obtain ⟨b, hbm⟩ := mx_ex hw (fun t ht => thr_ne99 hW ht)
      have hb16 := (thr_mem.mp (mx_mem hbm).1).1
      simp (disch := omega) only [n_0, n_1, n_2, n_3, n_4, n_5, n_6, n_7, n_8, n_9, n_10, n_12, n_13, n_16, n_30, n_60, n_61, n_86, n_99, n_100, n_200, n_201, n_1023, n_65535, n_10000, n_1000000, ↓q_m1, q_add, q_addm, q_inB, q_cl, q_le, q_lt, q_eq, q_eqm, q_meq, q_mltT, q_ltm, q_lem, q_mleT, if_true, if_false, if_pos, if_neg, Nat.reduceAdd, Nat.reduceMul, Nat.add_zero, Nat.zero_add, not_true_eq_false, not_false_eq_true, u_row, u_self, u_ne, cb_bi, cb_bv, cb_bl, if_neg hL0, if_neg hw, ne_eq]
      rw [m_strongest hz h hW hs hb hc (but := 99) (.inl ⟨rfl, rfl⟩), cb_bi, hl, hbm, oI_s]
      have fin : ∀ M1, Fx (fun a => a = 214) M M1 → (∀ t, t < 16 → M1.1 214 t = nI (shr law s (thr W c) (X.2.1 c) X.1 t)) → ∃ M', f217_139 z z (nI c) (nI 0) M1 = some (none, M') ∧ mK M M' ∧ mX M' (shr law s (thr W c) (X.2.1 c) X.1, ((thr W c).foldl (ps W s (shr law s (thr W c) (X.2.1 c) X.1)) (X.2.1, X.2.2.2)).1, X.2.2.1, ((thr W c).foldl (ps W s (shr law s (thr W c) (X.2.1 c) X.1)) (X.2.1, X.2.2.2)).2) := by
        intro M1 hF hr
        obtain ⟨M', e1, e2, e3⟩ := m_pass hz (M := M1) (W := W) (s := s) (c := c) (g := shr law s (thr W c) (X.2.1 c) X.1) (ld := X.2.1) (lost := X.2.2.1) (hem := X.2.2.2) (by rw [hF.2 206 (by decide)]; exact h) hW (by rw [hF.2 213 (by decide)]; exact hs) hb hc ⟨hr, by rw [hF.2 215 (by decide)]; exact hX2, by rw [hF.2 205 (by decide)]; exact hX3, by rw [hF.2 205 (by decide)]; exact hX4⟩
        exact ⟨M', e1, (mK.of214 hF).trans e2, e3⟩
      by_cases l0 : law = 0
      · obtain ⟨M1, e1, e2, e3⟩ := m_equal hz h hW hs hb hc hLn hX1 hw hwl
        simp (disch := omega) only [n_0, n_1, n_2, n_3, n_4, n_5, n_6, n_7, n_8, n_9, n_10, n_12, n_13, n_16, n_30, n_60, n_61, n_86, n_99, n_100, n_200, n_201, n_1023, n_65535, n_10000, n_1000000, ↓q_m1, q_add, q_addm, q_inB, q_cl, q_le, q_lt, q_eq, q_eqm, q_meq, q_mltT, q_ltm, q_lem, q_mleT, if_true, if_false, if_pos, if_neg, Nat.reduceAdd, Nat.reduceMul, Nat.add_zero, Nat.zero_add, not_true_eq_false, not_false_eq_true, u_row, u_self, u_ne, cb_bi, cb_bv, cb_bl, e1]
        refine fin M1 e2 ?_
        intro t ht
        rw [e3 t ht, l0]
        rfl
      · by_cases l1 : law = 1
        · simp (disch := omega) only [n_0, n_1, n_2, n_3, n_4, n_5, n_6, n_7, n_8, n_9, n_10, n_12, n_13, n_16, n_30, n_60, n_61, n_86, n_99, n_100, n_200, n_201, n_1023, n_65535, n_10000, n_1000000, ↓q_m1, q_add, q_addm, q_inB, q_cl, q_le, q_lt, q_eq, q_eqm, q_meq, q_mltT, q_ltm, q_lem, q_mleT, if_true, if_false, if_pos, if_neg, Nat.reduceAdd, Nat.reduceMul, Nat.add_zero, Nat.zero_add, not_true_eq_false, not_false_eq_true, u_row, u_self, u_ne, cb_bi, cb_bv, cb_bl]
          refine fin _ (Fx.w Fx.id0 rfl) ?_
          intro t ht
          have e : shr law s (thr W c) (X.2.1 c) X.1 = up X.1 b (X.2.1 c) := by
            unfold shr
            rw [if_neg l0, if_pos l1, hbm]
            rfl
          rw [e]
          exact row_up hX1 t ht
        · by_cases l2 : law = 2
          · obtain ⟨M1, e1, e2, e3⟩ := m_bystr hz h hW hs hb hc hLn hX1 hbm
            simp (disch := omega) only [n_0, n_1, n_2, n_3, n_4, n_5, n_6, n_7, n_8, n_9, n_10, n_12, n_13, n_16, n_30, n_60, n_61, n_86, n_99, n_100, n_200, n_201, n_1023, n_65535, n_10000, n_1000000, ↓q_m1, q_add, q_addm, q_inB, q_cl, q_le, q_lt, q_eq, q_eqm, q_meq, q_mltT, q_ltm, q_lem, q_mleT, if_true, if_false, if_pos, if_neg, Nat.reduceAdd, Nat.reduceMul, Nat.add_zero, Nat.zero_add, not_true_eq_false, not_false_eq_true, u_row, u_self, u_ne, cb_bi, cb_bv, cb_bl, e1]
            refine fin M1 e2 ?_
            intro t ht
            rw [e3 t ht, l2]
          · have l3 : law = 3 := by omega
            obtain ⟨M1, e1, e2, e3⟩ := m_halves hz h hW hs hb hc hLn hX1 hbm
            simp (disch := omega) only [n_0, n_1, n_2, n_3, n_4, n_5, n_6, n_7, n_8, n_9, n_10, n_12, n_13, n_16, n_30, n_60, n_61, n_86, n_99, n_100, n_200, n_201, n_1023, n_65535, n_10000, n_1000000, ↓q_m1, q_add, q_addm, q_inB, q_cl, q_le, q_lt, q_eq, q_eqm, q_meq, q_mltT, q_ltm, q_lem, q_mleT, if_true, if_false, if_pos, if_neg, Nat.reduceAdd, Nat.reduceMul, Nat.add_zero, Nat.zero_add, not_true_eq_false, not_false_eq_true, u_row, u_self, u_ne, cb_bi, cb_bv, cb_bl, e1]
            refine fin M1 e2 ?_
            intro t ht
            rw [e3 t ht, l3]
