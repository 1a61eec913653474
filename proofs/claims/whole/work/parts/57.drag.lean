/-! ===== the class: a claim shares, a pull, a quarrel ===== -/
theorem fo_take {α : Type} {W : cW} (st : α → Nat → α) (p : α) {c k : Nat} (h : k < (thr W c).length) : ((thr W c).take (k + 1)).foldl st p = st (((thr W c).take k).foldl st p) ((thr W c).getD k 0) := by
  rw [th_take h, List.foldl_append]
  rfl
theorem ws_take {W : cW} (s g : Nat → Nat) {c k : Nat} (h : k < (thr W c).length) : ws s g ((thr W c).take (k + 1)) = ws s g ((thr W c).take k) + (if 0 < s ((thr W c).getD k 0) then g ((thr W c).getD k 0) else 0) := by
  rw [th_take h, ws_app]
  rfl
def tX (M : aM) (u : Nat) (X : cX) : Prop := (∀ t, t < 16 → M.1 (u + 1) t = nI (X.1 t)) ∧ (∀ c, c < 8 → M.1 (u + 2) c = nI (X.2.1 c)) ∧ M.1 u 3 = nI X.2.2.1 ∧ M.1 u 4 = nI X.2.2.2
/-- evenly -/
theorem c_even {z : Nat} (hz : 2000 ≤ z) {M : aM} {W : cW} {s : Nat → Nat} {u r c L : Nat} (hW : wf W) (hC : rC M 18 W) (hu : 32 ≤ u) (hr : 32 ≤ r) (hne : r ≠ u + 1) (hc : c < 8) (hs : ∀ t, t < W 0 4 → M.1 r t = nI (s t)) (hb : ∀ t, s t ≤ 1000) {sh : Nat → Nat} (hsh : ∀ t, t < 16 → M.1 (u + 1) t = nI (sh t)) (hL : M.1 (u + 2) c = nI L) (hL2 : L ≤ 200) (h6 : M.1 u 6 = nI (nW s (thr W c))) (hw : nW s (thr W c) ≠ 0) :
    ∃ M', f60 z u 18 r (nI c) M = some (none, M') ∧ Fx (fun a => a = u + 1) M M' ∧ ∀ t, t < 16 → M'.1 (u + 1) t = nI (((thr W c).foldl (st0 s L (nW s (thr W c))) (sh, 0)).1 t) := by
  have hT : W 0 4 ≤ 16 := hW.2.2.2.2.1
  have hbl := bg_le W (c + 1)
  rw [bg_s] at hbl
  have hwl := nW_le s (thr W c)
  generalize nW s (thr W c) = m at *
  have hm0 : 0 < m := by omega
  have hLd : L / m ≤ L := Nat.div_le_self _ _
  have hLm : L % m < m := Nat.mod_lt _ hm0
  unfold f60
  simp (disch := omega) only [n_0, n_1, n_2, n_3, n_4, n_5, n_6, n_7, n_8, n_9, n_10, n_12, n_13, n_16, n_30, n_60, n_61, n_86, n_99, n_100, n_200, n_201, n_1023, n_65535, n_10000, n_1000000, ↓q_m1, q_add, q_addm, q_inB, q_cl, q_le, q_lt, q_eq, q_eqm, q_meq, q_mltT, q_ltm, q_lem, q_mleT, if_true, if_false, if_pos, if_neg, Nat.reduceAdd, Nat.reduceMul, Nat.add_zero, Nat.zero_add, not_true_eq_false, not_false_eq_true, u_row, u_self, u_ne, cb_bi, cb_bv, cb_bl, hC.bv, hL, h6, q_div, q_mul, q_rem]
  obtain ⟨n, M', e, hF, hI, _⟩ := lr0 (fun n k M' => f60_34 z n u 18 r (nI c) (nI (L / m)) (nI (L % m) - nI (((thr W c).take k).foldl (st0 s L m) (sh, 0)).2) (nI (bg W c + k)) M') (thr W c).length (fun k M' => Fx (fun a => a = u + 1) M M' ∧ (∀ t, t < 16 → M'.1 (u + 1) t = nI ((((thr W c).take k).foldl (st0 s L m) (sh, 0)).1 t)) ∧ (((thr W c).take k).foldl (st0 s L m) (sh, 0)).2 ≤ k) z M (by omega) ⟨Fx.id0, hsh, Nat.le_refl _⟩ (by
    intro n k M' hk hI
    obtain ⟨hF, hI1, hI2⟩ := hI
    have hC' := hC.fx hF (fun a q => by omega)
    obtain ⟨ht, htc, htm⟩ := th_at hk
    have hso := hC'.so hc hk
    have hst : ∀ t, t < W 0 4 → M'.1 r t = nI (s t) := fun t ht => by rw [hF.2 r (fun q => hne q)]; exact hs _ ht
    simp only [fo_take _ _ hk]
    generalize ((thr W c).take k).foldl (st0 s L m) (sh, 0) = p at *
    generalize (thr W c).getD k 0 = t at *
    have hbt := hb t
    rw [f60_34]
    by_cases h0 : 0 < s t
    · simp only [st0, if_pos h0]
      by_cases h1 : p.2 < L % m
      · simp (disch := omega) only [n_0, n_1, n_2, n_3, n_4, n_5, n_6, n_7, n_8, n_9, n_10, n_12, n_13, n_16, n_30, n_60, n_61, n_86, n_99, n_100, n_200, n_201, n_1023, n_65535, n_10000, n_1000000, ↓q_m1, q_add, q_addm, q_inB, q_cl, q_le, q_lt, q_eq, q_eqm, q_meq, q_mltT, q_ltm, q_lem, q_mleT, if_true, if_false, if_pos, if_neg, Nat.reduceAdd, Nat.reduceMul, Nat.add_zero, Nat.zero_add, not_true_eq_false, not_false_eq_true, u_row, u_self, u_ne, cb_bi, cb_bv, cb_bl, hC'.bv, bg_s, hso, hst, q_sle, q_sm1]
        exact ⟨_, rfl, Fx.w hF rfl, row_upg hI1, by omega⟩
      · simp (disch := omega) only [n_0, n_1, n_2, n_3, n_4, n_5, n_6, n_7, n_8, n_9, n_10, n_12, n_13, n_16, n_30, n_60, n_61, n_86, n_99, n_100, n_200, n_201, n_1023, n_65535, n_10000, n_1000000, ↓q_m1, q_add, q_addm, q_inB, q_cl, q_le, q_lt, q_eq, q_eqm, q_meq, q_mltT, q_ltm, q_lem, q_mleT, if_true, if_false, if_pos, if_neg, Nat.reduceAdd, Nat.reduceMul, Nat.add_zero, Nat.zero_add, not_true_eq_false, not_false_eq_true, u_row, u_self, u_ne, cb_bi, cb_bv, cb_bl, hC'.bv, bg_s, hso, hst, q_sle, q_sm1]
        exact ⟨_, rfl, Fx.w hF rfl, row_upg hI1, by omega⟩
    · simp (disch := omega) only [st0, if_neg h0, n_0, n_1, n_2, n_3, n_4, n_5, n_6, n_7, n_8, n_9, n_10, n_12, n_13, n_16, n_30, n_60, n_61, n_86, n_99, n_100, n_200, n_201, n_1023, n_65535, n_10000, n_1000000, ↓q_m1, q_add, q_addm, q_inB, q_cl, q_le, q_lt, q_eq, q_eqm, q_meq, q_mltT, q_ltm, q_lem, q_mleT, if_true, if_false, if_pos, if_neg, Nat.reduceAdd, Nat.reduceMul, Nat.add_zero, Nat.zero_add, not_true_eq_false, not_false_eq_true, u_row, u_self, u_ne, cb_bi, cb_bv, cb_bl, hC'.bv, bg_s, hso, hst]
      exact ⟨M', rfl, hF, hI1, by omega⟩)
  rw [show nI (L % m) - nI (List.foldl (st0 s L m) (sh, 0) (List.take 0 (thr W c))).2 = nI (L % m) from q_s0 _] at e
  have hC' := hC.fx hF (fun a q => by omega)
  rw [List.take_length] at hI e
  refine ⟨M', ?_, hF, hI⟩
  refine Eq.trans e ?_
  rw [f60_34]
  simp (disch := omega) only [n_0, n_1, n_2, n_3, n_4, n_5, n_6, n_7, n_8, n_9, n_10, n_12, n_13, n_16, n_30, n_60, n_61, n_86, n_99, n_100, n_200, n_201, n_1023, n_65535, n_10000, n_1000000, ↓q_m1, q_add, q_addm, q_inB, q_cl, q_le, q_lt, q_eq, q_eqm, q_meq, q_mltT, q_ltm, q_lem, q_mleT, if_true, if_false, if_pos, if_neg, Nat.reduceAdd, Nat.reduceMul, Nat.add_zero, Nat.zero_add, not_true_eq_false, not_false_eq_true, u_row, u_self, u_ne, cb_bi, cb_bv, cb_bl, hC'.bv, bg_s]
/-- byStrength -/
theorem c_bystr {z : Nat} (hz : 2000 ≤ z) {M : aM} {W : cW} {s : Nat → Nat} {u r c L b : Nat} (hW : wf W) (hC : rC M 18 W) (hu : 32 ≤ u) (hr : 32 ≤ r) (hne : r ≠ u + 1) (hc : c < 8) (hs : ∀ t, t < W 0 4 → M.1 r t = nI (s t)) (hb : ∀ t, s t ≤ 1000) {sh : Nat → Nat} (hsh : ∀ t, t < 16 → M.1 (u + 1) t = nI (sh t)) (hL : M.1 (u + 2) c = nI L) (hL2 : L ≤ 200) (h7 : M.1 u 7 = nI (ws s s (thr W c))) (h8 : M.1 u 8 = nI b) (hbm : mx s 99 (thr W c) = some b) (hz0 : ∀ t ∈ thr W c, sh t = 0) :
    ∃ M', f61 z u 18 r (nI c) M = some (none, M') ∧ Fx (fun a => a = u + 1) M M' ∧ ∀ t, t < 16 → M'.1 (u + 1) t = nI (shr 2 s (thr W c) L sh t) := by
  have hT : W 0 4 ≤ 16 := hW.2.2.2.2.1
  have hbl := bg_le W (c + 1)
  rw [bg_s] at hbl
  have hbb := mx_mem hbm
  have hb16 := (thr_mem.mp hbb.1).1
  have htt : 0 < ws s s (thr W c) := Nat.lt_of_lt_of_le hbb.2.1 (ws_le hbb.1 hbb.2.1)
  have htl := ws_lim s hb (thr W c)
  have htL := thr_len hW c
  have hA : ws s (fun t => s t * L / ws s s (thr W c)) (thr W c) ≤ L := by
    have h4 := ws_div s L (ws s s (thr W c)) (thr W c)
    rw [Nat.mul_comm (ws s s (thr W c)) L] at h4
    exact Nat.le_of_mul_le_mul_right h4 htt
  have hA2 := st2_ws s L (ws s s (thr W c)) (thr W c) (sh, L) (thr_nodup W c)
  have e2 : shr 2 s (thr W c) L sh = up ((thr W c).foldl (st2 s L (ws s s (thr W c))) (sh, L)).1 b (((thr W c).foldl (st2 s L (ws s s (thr W c))) (sh, L)).1 b + (L - ws s (fun t => s t * L / ws s s (thr W c)) (thr W c))) := by
    unfold shr
    rw [if_neg (by decide), if_neg (by decide), if_pos rfl, hbm, hA2.2]
    rfl
  rw [e2]
  generalize htg : ws s s (thr W c) = tt at *
  unfold f61
  simp (disch := omega) only [n_0, n_1, n_2, n_3, n_4, n_5, n_6, n_7, n_8, n_9, n_10, n_12, n_13, n_16, n_30, n_60, n_61, n_86, n_99, n_100, n_200, n_201, n_1023, n_65535, n_10000, n_1000000, ↓q_m1, q_add, q_addm, q_inB, q_cl, q_le, q_lt, q_eq, q_eqm, q_meq, q_mltT, q_ltm, q_lem, q_mleT, if_true, if_false, if_pos, if_neg, Nat.reduceAdd, Nat.reduceMul, Nat.add_zero, Nat.zero_add, not_true_eq_false, not_false_eq_true, u_row, u_self, u_ne, cb_bi, cb_bv, cb_bl, hC.bv, hL]
  obtain ⟨n, M', e, hF, hI, _⟩ := lr0 (fun n k M' => f61_16 z n u 18 r (nI c) (nI L - nI (ws s (fun t => s t * L / tt) ((thr W c).take k))) (nI (bg W c + k)) M') (thr W c).length (fun k M' => Fx (fun a => a = u + 1) M M' ∧ (∀ t, t < 16 → M'.1 (u + 1) t = nI ((((thr W c).take k).foldl (st2 s L tt) (sh, L)).1 t)) ∧ (∀ t, t ∉ (thr W c).take k → (((thr W c).take k).foldl (st2 s L tt) (sh, L)).1 t = sh t)) z M (by omega) ⟨Fx.id0, hsh, fun _ _ => rfl⟩ (by
    intro n k M' hk hI
    obtain ⟨hF, hI1, hI2⟩ := hI
    have hC' := hC.fx hF (fun a q => by omega)
    obtain ⟨ht, htc, htm⟩ := th_at hk
    have hnew := th_new hk
    have hso := hC'.so hc hk
    have hst : ∀ t, t < W 0 4 → M'.1 r t = nI (s t) := fun t ht => by rw [hF.2 r (fun q => hne q)]; exact hs _ ht
    have hLc : M'.1 (u + 2) c = nI L := by rw [hF.2 (u + 2) (by omega)]; exact hL
    have h7' : M'.1 u 7 = nI tt := by rw [hF.2 u (by omega)]; exact h7
    have hp0 := hI2 _ hnew
    rw [hz0 _ htm] at hp0
    have hnx : ∀ t, t ∉ (thr W c).take (k + 1) → (((thr W c).take (k + 1)).foldl (st2 s L tt) (sh, L)).1 t = sh t := fun t ht => fo_ne _ (st2_ne s L tt) _ _ t (.inl ht)
    simp only [fo_take _ _ hk, ws_take _ _ hk] at hnx ⊢
    generalize ((thr W c).take k).foldl (st2 s L tt) (sh, L) = p at *
    generalize (thr W c).getD k 0 = t at *
    have hbt := hb t
    have hm : s t * L ≤ 200000 := Nat.mul_le_mul hbt hL2
    rw [f61_16]
    by_cases h0 : 0 < s t
    · simp only [st2, if_pos h0] at hnx ⊢
      simp (disch := omega) only [n_0, n_1, n_2, n_3, n_4, n_5, n_6, n_7, n_8, n_9, n_10, n_12, n_13, n_16, n_30, n_60, n_61, n_86, n_99, n_100, n_200, n_201, n_1023, n_65535, n_10000, n_1000000, ↓q_m1, q_add, q_addm, q_inB, q_cl, q_le, q_lt, q_eq, q_eqm, q_meq, q_mltT, q_ltm, q_lem, q_mleT, if_true, if_false, if_pos, if_neg, Nat.reduceAdd, Nat.reduceMul, Nat.add_zero, Nat.zero_add, not_true_eq_false, not_false_eq_true, u_row, u_self, u_ne, cb_bi, cb_bv, cb_bl, hC'.bv, bg_s, hso, hst, hLc, h7', q_mul, q_div, i_sub]
      exact ⟨_, rfl, Fx.w hF rfl, row_upg hI1, hnx⟩
    · have hs0 : s t = 0 := by omega
      simp only [st2, if_neg h0] at hnx ⊢
      simp (disch := omega) only [n_0, n_1, n_2, n_3, n_4, n_5, n_6, n_7, n_8, n_9, n_10, n_12, n_13, n_16, n_30, n_60, n_61, n_86, n_99, n_100, n_200, n_201, n_1023, n_65535, n_10000, n_1000000, ↓q_m1, q_add, q_addm, q_inB, q_cl, q_le, q_lt, q_eq, q_eqm, q_meq, q_mltT, q_ltm, q_lem, q_mleT, if_true, if_false, if_pos, if_neg, Nat.reduceAdd, Nat.reduceMul, Nat.add_zero, Nat.zero_add, not_true_eq_false, not_false_eq_true, u_row, u_self, u_ne, cb_bi, cb_bv, cb_bl, hC'.bv, bg_s, hso, hst, hLc, h7', q_mul, q_div, i_sub, hs0, Nat.zero_mul, Nat.zero_div]
      refine ⟨_, rfl, Fx.w hF rfl, ?_, hnx⟩
      intro i hi
      simp only [u_at]
      split
      · rename_i q
        rw [q, hp0]
      · exact hI1 i hi)
  have hC' := hC.fx hF (fun a q => by omega)
  have h8' : M'.1 u 8 = nI b := by rw [hF.2 u (by omega)]; exact h8
  rw [List.take_length] at hI e
  have e0 : nI L - nI (ws s (fun t => s t * L / tt) ((thr W c).take 0)) = nI L := by
    show nI L - nI 0 = nI L
    exact q_s0 L
  rw [e0] at e
  refine ⟨(am_u M'.1 (u + 1) b (nI (((thr W c).foldl (st2 s L tt) (sh, L)).1 b + (L - ws s (fun t => s t * L / tt) (thr W c)))), M'.2), ?_, Fx.w hF rfl, row_upg hI⟩
  refine Eq.trans e ?_
  rw [f61_16]
  simp (disch := omega) only [n_0, n_1, n_2, n_3, n_4, n_5, n_6, n_7, n_8, n_9, n_10, n_12, n_13, n_16, n_30, n_60, n_61, n_86, n_99, n_100, n_200, n_201, n_1023, n_65535, n_10000, n_1000000, ↓q_m1, q_add, q_addm, q_inB, q_cl, q_le, q_lt, q_eq, q_eqm, q_meq, q_mltT, q_ltm, q_lem, q_mleT, if_true, if_false, if_pos, if_neg, Nat.reduceAdd, Nat.reduceMul, Nat.add_zero, Nat.zero_add, not_true_eq_false, not_false_eq_true, u_row, u_self, u_ne, cb_bi, cb_bv, cb_bl, hC'.bv, bg_s, h8', hI, q_sub]
/-- passOn -/
theorem c_pass {z : Nat} (hz : 2000 ≤ z) {M : aM} {W : cW} {s : Nat → Nat} {u c : Nat} (hW : wf W) (hC : rC M 18 W) (hu : 32 ≤ u) (hc : c < 8) {g ld : Nat → Nat} {lost hem : Nat} (hX : tX M u (g, ld, lost, hem)) (hg : ∀ t ∈ thr W c, ¬ 0 < s t → g t = 0) :
    ∃ M', f62 z u 18 (nI c) M = some (none, M') ∧ Fx (fun a => a = u ∨ a = u + 2) M M' ∧ (∀ j, j ≠ 4 → M'.1 u j = M.1 u j) ∧ tX M' u (g, ((thr W c).foldl (ps W s g) (ld, hem)).1, lost, ((thr W c).foldl (ps W s g) (ld, hem)).2) := by
  have hT : W 0 4 ≤ 16 := hW.2.2.2.2.1
  have hC8 : W 0 3 ≤ 8 := hW.2.2.2.1
  have hbl := bg_le W (c + 1)
  rw [bg_s] at hbl
  unfold f62
  simp (disch := omega) only [n_0, n_1, n_2, n_3, n_4, n_5, n_6, n_7, n_8, n_9, n_10, n_12, n_13, n_16, n_30, n_60, n_61, n_86, n_99, n_100, n_200, n_201, n_1023, n_65535, n_10000, n_1000000, ↓q_m1, q_add, q_addm, q_inB, q_cl, q_le, q_lt, q_eq, q_eqm, q_meq, q_mltT, q_ltm, q_lem, q_mleT, if_true, if_false, if_pos, if_neg, Nat.reduceAdd, Nat.reduceMul, Nat.add_zero, Nat.zero_add, not_true_eq_false, not_false_eq_true, u_row, u_self, u_ne, cb_bi, cb_bv, cb_bl, hC.bv]
  obtain ⟨n, M', e, hF, hJ, hI⟩ := lr0 (fun n k M' => f62_7 z n u 18 (nI c) (nI (bg W c + k)) M') (thr W c).length (fun k M' => Fx (fun a => a = u ∨ a = u + 2) M M' ∧ (∀ j, j ≠ 4 → M'.1 u j = M.1 u j) ∧ tX M' u (g, (((thr W c).take k).foldl (ps W s g) (ld, hem)).1, lost, (((thr W c).take k).foldl (ps W s g) (ld, hem)).2)) z M (by omega) ⟨Fx.id0, fun _ _ => rfl, hX⟩ (by
    intro n k M' hk hI
    obtain ⟨hF, hJ, hX1, hX2, hX3, hX4⟩ := hI
    have hC' := hC.fx hF (fun a q => by omega)
    obtain ⟨ht, htc, htm⟩ := th_at hk
    have hso := hC'.so hc hk
    have hto := hC'.to ht
    have hw := (hW.2.2.2.2.2.2.2.2.1 _ ht)
    have hgt := hg _ htm
    simp only [fo_take _ _ hk]
    generalize ((thr W c).take k).foldl (ps W s g) (ld, hem) = p at *
    generalize (thr W c).getD k 0 = t at *
    rw [f62_7]
    by_cases h8 : W 2 t = 8
    · rw [h8, hI_8] at hto
      have hp : (ps W s g p t).1 = p.1 ∧ (ps W s g p t).2 = p.2 + g t := by
        unfold ps
        by_cases h0 : 0 < s t
        · rw [if_pos h0, if_pos h8]; exact ⟨rfl, rfl⟩
        · rw [if_neg h0, hgt h0]; exact ⟨rfl, rfl⟩
      simp only [hp.1, hp.2]
      simp (disch := omega) only [n_0, n_1, n_2, n_3, n_4, n_5, n_6, n_7, n_8, n_9, n_10, n_12, n_13, n_16, n_30, n_60, n_61, n_86, n_99, n_100, n_200, n_201, n_1023, n_65535, n_10000, n_1000000, ↓q_m1, q_add, q_addm, q_inB, q_cl, q_le, q_lt, q_eq, q_eqm, q_meq, q_mltT, q_ltm, q_lem, q_mleT, if_true, if_false, if_pos, if_neg, Nat.reduceAdd, Nat.reduceMul, Nat.add_zero, Nat.zero_add, not_true_eq_false, not_false_eq_true, u_row, u_self, u_ne, cb_bi, cb_bv, cb_bl, hC'.bv, bg_s, hso, hto, hX1, hX4, ne_eq]
      refine ⟨_, rfl, Fx.w hF (.inl rfl), ?_, ?_, ?_, ?_, ?_⟩
      · intro j hj
        simp (disch := omega) only [u_ne]
        exact hJ j hj
      · simp (disch := omega) only [u_row]
        exact hX1
      · simp (disch := omega) only [u_row]
        exact hX2
      · simp (disch := omega) only [u_ne]
        exact hX3
      · simp only [u_self]
    · rw [hI_n h8] at hto
      have hp : (ps W s g p t).2 = p.2 ∧ ∀ i, (ps W s g p t).1 i = up p.1 (W 2 t) (p.1 (W 2 t) + g t) i := by
        unfold ps
        by_cases h0 : 0 < s t
        · rw [if_pos h0, if_neg h8]; exact ⟨rfl, fun _ => rfl⟩
        · rw [if_neg h0, hgt h0]
          refine ⟨rfl, fun i => ?_⟩
          unfold up
          split
          · rename_i q; rw [q]; rfl
          · rfl
      simp only [hp.1, tX, hp.2]
      simp (disch := omega) only [n_0, n_1, n_2, n_3, n_4, n_5, n_6, n_7, n_8, n_9, n_10, n_12, n_13, n_16, n_30, n_60, n_61, n_86, n_99, n_100, n_200, n_201, n_1023, n_65535, n_10000, n_1000000, ↓q_m1, q_add, q_addm, q_inB, q_cl, q_le, q_lt, q_eq, q_eqm, q_meq, q_mltT, q_ltm, q_lem, q_mleT, if_true, if_false, if_pos, if_neg, Nat.reduceAdd, Nat.reduceMul, Nat.add_zero, Nat.zero_add, not_true_eq_false, not_false_eq_true, u_row, u_self, u_ne, cb_bi, cb_bv, cb_bl, hC'.bv, bg_s, hso, hto, hX1, hX2, ne_eq]
      refine ⟨_, rfl, Fx.w hF (.inr rfl), ?_, ?_, ?_, ?_, ?_⟩
      · intro j hj
        simp (disch := omega) only [u_row]
        exact hJ j hj
      · simp (disch := omega) only [u_row]
        exact hX1
      · exact row_upg hX2
      · simp (disch := omega) only [u_row]
        exact hX3
      · simp (disch := omega) only [u_row]
        exact hX4)
  have hC' := hC.fx hF (fun a q => by omega)
  rw [List.take_length] at hI
  refine ⟨M', ?_, hF, hJ, hI⟩
  refine Eq.trans e ?_
  rw [f62_7]
  simp (disch := omega) only [n_0, n_1, n_2, n_3, n_4, n_5, n_6, n_7, n_8, n_9, n_10, n_12, n_13, n_16, n_30, n_60, n_61, n_86, n_99, n_100, n_200, n_201, n_1023, n_65535, n_10000, n_1000000, ↓q_m1, q_add, q_addm, q_inB, q_cl, q_le, q_lt, q_eq, q_eqm, q_meq, q_mltT, q_ltm, q_lem, q_mleT, if_true, if_false, if_pos, if_neg, Nat.reduceAdd, Nat.reduceMul, Nat.add_zero, Nat.zero_add, not_true_eq_false, not_false_eq_true, u_row, u_self, u_ne, cb_bi, cb_bv, cb_bl, hC'.bv, bg_s]
